/-! The law's ops of two calls. Written by wip/tool/lawloop.py. -/
theorem d_law_132 : m_dn M_law 132 (.aload_n 1) 1 133 := by decide +kernel
theorem d_law_133 : m_dn M_law 133 (.aload_n 0) 1 134 := by decide +kernel
theorem d_law_134 : m_dn M_law 134 (.iload 4) 2 136 := by decide +kernel
theorem d_law_136 : m_dn M_law 136 (.iconst 1) 1 137 := by decide +kernel
theorem d_law_137 : m_dn M_law 137 (.iadd) 1 138 := by decide +kernel
theorem d_law_138 : m_dn M_law 138 (.iaload) 1 139 := by decide +kernel
theorem d_law_139 : m_dn M_law 139 (.i2l) 1 140 := by decide +kernel
theorem d_law_140 : m_dn M_law 140 (.bipush 32) 2 142 := by decide +kernel
theorem d_law_142 : m_dn M_law 142 (.lshl) 1 143 := by decide +kernel
theorem d_law_143 : m_dn M_law 143 (.aload_n 0) 1 144 := by decide +kernel
theorem d_law_144 : m_dn M_law 144 (.iload 4) 2 146 := by decide +kernel
theorem d_law_146 : m_dn M_law 146 (.iconst 2) 1 147 := by decide +kernel
theorem d_law_147 : m_dn M_law 147 (.iadd) 1 148 := by decide +kernel
theorem d_law_148 : m_dn M_law 148 (.iaload) 1 149 := by decide +kernel
theorem d_law_149 : m_dn M_law 149 (.i2l) 1 150 := by decide +kernel
theorem d_law_150 : m_dn M_law 150 (.ldc2_w 31) 3 153 := by decide +kernel
theorem d_law_153 : m_dn M_law 153 (.land) 1 154 := by decide +kernel
theorem d_law_154 : m_dn M_law 154 (.lor) 1 155 := by decide +kernel
theorem d_law_155 : m_dn M_law 155 (.aload_n 0) 1 156 := by decide +kernel
theorem d_law_156 : m_dn M_law 156 (.iload 4) 2 158 := by decide +kernel
theorem d_law_158 : m_dn M_law 158 (.iconst 3) 1 159 := by decide +kernel
theorem d_law_159 : m_dn M_law 159 (.iadd) 1 160 := by decide +kernel
theorem d_law_160 : m_dn M_law 160 (.iaload) 1 161 := by decide +kernel
theorem d_law_161 : m_dn M_law 161 (.invokevirtual 33) 3 164 := by decide +kernel
theorem d_law_164 : m_dn M_law 164 (.aload_n 2) 1 165 := by decide +kernel
theorem d_law_165 : m_dn M_law 165 (.aload_n 0) 1 166 := by decide +kernel
theorem d_law_166 : m_dn M_law 166 (.iload 4) 2 168 := by decide +kernel
theorem d_law_168 : m_dn M_law 168 (.iconst 1) 1 169 := by decide +kernel
theorem d_law_169 : m_dn M_law 169 (.iadd) 1 170 := by decide +kernel
theorem d_law_170 : m_dn M_law 170 (.iaload) 1 171 := by decide +kernel
theorem d_law_171 : m_dn M_law 171 (.i2l) 1 172 := by decide +kernel
theorem d_law_172 : m_dn M_law 172 (.bipush 32) 2 174 := by decide +kernel
theorem d_law_174 : m_dn M_law 174 (.lshl) 1 175 := by decide +kernel
theorem d_law_175 : m_dn M_law 175 (.aload_n 0) 1 176 := by decide +kernel
theorem d_law_176 : m_dn M_law 176 (.iload 4) 2 178 := by decide +kernel
theorem d_law_178 : m_dn M_law 178 (.iconst 2) 1 179 := by decide +kernel
theorem d_law_179 : m_dn M_law 179 (.iadd) 1 180 := by decide +kernel
theorem d_law_180 : m_dn M_law 180 (.iaload) 1 181 := by decide +kernel
theorem d_law_181 : m_dn M_law 181 (.i2l) 1 182 := by decide +kernel
theorem d_law_182 : m_dn M_law 182 (.ldc2_w 31) 3 185 := by decide +kernel
theorem d_law_185 : m_dn M_law 185 (.land) 1 186 := by decide +kernel
theorem d_law_186 : m_dn M_law 186 (.lor) 1 187 := by decide +kernel
theorem d_law_187 : m_dn M_law 187 (.aload_n 0) 1 188 := by decide +kernel
theorem d_law_188 : m_dn M_law 188 (.iload 4) 2 190 := by decide +kernel
theorem d_law_190 : m_dn M_law 190 (.iconst 3) 1 191 := by decide +kernel
theorem d_law_191 : m_dn M_law 191 (.iadd) 1 192 := by decide +kernel
theorem d_law_192 : m_dn M_law 192 (.iaload) 1 193 := by decide +kernel
theorem d_law_193 : m_dn M_law 193 (.invokevirtual 37) 3 196 := by decide +kernel
theorem d_law_196 : m_dn M_law 196 (.if_icmp .eq 620) 3 199 := by decide +kernel
theorem d_law_245 : m_dn M_law 245 (.aload_n 1) 1 246 := by decide +kernel
theorem d_law_246 : m_dn M_law 246 (.aload_n 0) 1 247 := by decide +kernel
theorem d_law_247 : m_dn M_law 247 (.iload 4) 2 249 := by decide +kernel
theorem d_law_249 : m_dn M_law 249 (.iconst 1) 1 250 := by decide +kernel
theorem d_law_250 : m_dn M_law 250 (.iadd) 1 251 := by decide +kernel
theorem d_law_251 : m_dn M_law 251 (.iaload) 1 252 := by decide +kernel
theorem d_law_252 : m_dn M_law 252 (.invokevirtual 47) 3 255 := by decide +kernel
theorem d_law_255 : m_dn M_law 255 (.aload_n 2) 1 256 := by decide +kernel
theorem d_law_256 : m_dn M_law 256 (.aload_n 0) 1 257 := by decide +kernel
theorem d_law_257 : m_dn M_law 257 (.iload 4) 2 259 := by decide +kernel
theorem d_law_259 : m_dn M_law 259 (.iconst 1) 1 260 := by decide +kernel
theorem d_law_260 : m_dn M_law 260 (.iadd) 1 261 := by decide +kernel
theorem d_law_261 : m_dn M_law 261 (.iaload) 1 262 := by decide +kernel
theorem d_law_262 : m_dn M_law 262 (.invokevirtual 51) 3 265 := by decide +kernel
theorem d_law_265 : m_dn M_law 265 (.if_icmp .eq 551) 3 268 := by decide +kernel
theorem d_law_270 : m_dn M_law 270 (.aload_n 1) 1 271 := by decide +kernel
theorem d_law_271 : m_dn M_law 271 (.invokevirtual 52) 3 274 := by decide +kernel
theorem d_law_274 : m_dn M_law 274 (.aload_n 2) 1 275 := by decide +kernel
theorem d_law_275 : m_dn M_law 275 (.invokevirtual 55) 3 278 := by decide +kernel
theorem d_law_278 : m_dn M_law 278 (.if_icmp .eq 538) 3 281 := by decide +kernel
theorem d_law_283 : m_dn M_law 283 (.aload_n 1) 1 284 := by decide +kernel
theorem d_law_284 : m_dn M_law 284 (.invokevirtual 56) 3 287 := by decide +kernel
theorem d_law_287 : m_dn M_law 287 (.aload_n 2) 1 288 := by decide +kernel
theorem d_law_288 : m_dn M_law 288 (.invokevirtual 59) 3 291 := by decide +kernel
theorem d_law_291 : m_dn M_law 291 (.if_icmp .eq 525) 3 294 := by decide +kernel
theorem d_law_296 : m_dn M_law 296 (.aload_n 1) 1 297 := by decide +kernel
theorem d_law_297 : m_dn M_law 297 (.aload_n 0) 1 298 := by decide +kernel
theorem d_law_298 : m_dn M_law 298 (.iload 4) 2 300 := by decide +kernel
theorem d_law_300 : m_dn M_law 300 (.iconst 1) 1 301 := by decide +kernel
theorem d_law_301 : m_dn M_law 301 (.iadd) 1 302 := by decide +kernel
theorem d_law_302 : m_dn M_law 302 (.iaload) 1 303 := by decide +kernel
theorem d_law_303 : m_dn M_law 303 (.invokevirtual 60) 3 306 := by decide +kernel
theorem d_law_306 : m_dn M_law 306 (.aload_n 2) 1 307 := by decide +kernel
theorem d_law_307 : m_dn M_law 307 (.aload_n 0) 1 308 := by decide +kernel
theorem d_law_308 : m_dn M_law 308 (.iload 4) 2 310 := by decide +kernel
theorem d_law_310 : m_dn M_law 310 (.iconst 1) 1 311 := by decide +kernel
theorem d_law_311 : m_dn M_law 311 (.iadd) 1 312 := by decide +kernel
theorem d_law_312 : m_dn M_law 312 (.iaload) 1 313 := by decide +kernel
theorem d_law_313 : m_dn M_law 313 (.invokevirtual 63) 3 316 := by decide +kernel
theorem d_law_316 : m_dn M_law 316 (.if_icmp .eq 500) 3 319 := by decide +kernel
theorem d_law_321 : m_dn M_law 321 (.aload_n 1) 1 322 := by decide +kernel
theorem d_law_322 : m_dn M_law 322 (.aload_n 0) 1 323 := by decide +kernel
theorem d_law_323 : m_dn M_law 323 (.iload 4) 2 325 := by decide +kernel
theorem d_law_325 : m_dn M_law 325 (.iconst 1) 1 326 := by decide +kernel
theorem d_law_326 : m_dn M_law 326 (.iadd) 1 327 := by decide +kernel
theorem d_law_327 : m_dn M_law 327 (.iaload) 1 328 := by decide +kernel
theorem d_law_328 : m_dn M_law 328 (.invokevirtual 64) 3 331 := by decide +kernel
theorem d_law_331 : m_dn M_law 331 (.aload_n 2) 1 332 := by decide +kernel
theorem d_law_332 : m_dn M_law 332 (.aload_n 0) 1 333 := by decide +kernel
theorem d_law_333 : m_dn M_law 333 (.iload 4) 2 335 := by decide +kernel
theorem d_law_335 : m_dn M_law 335 (.iconst 1) 1 336 := by decide +kernel
theorem d_law_336 : m_dn M_law 336 (.iadd) 1 337 := by decide +kernel
theorem d_law_337 : m_dn M_law 337 (.iaload) 1 338 := by decide +kernel
theorem d_law_338 : m_dn M_law 338 (.invokevirtual 67) 3 341 := by decide +kernel
theorem d_law_341 : m_dn M_law 341 (.if_icmp .eq 475) 3 344 := by decide +kernel
theorem d_law_346 : m_dn M_law 346 (.aload_n 1) 1 347 := by decide +kernel
theorem d_law_347 : m_dn M_law 347 (.invokevirtual 68) 3 350 := by decide +kernel
theorem d_law_350 : m_dn M_law 350 (.aload_n 2) 1 351 := by decide +kernel
theorem d_law_351 : m_dn M_law 351 (.invokevirtual 71) 3 354 := by decide +kernel
theorem d_law_354 : m_dn M_law 354 (.if_icmp .eq 462) 3 357 := by decide +kernel
theorem d_law_359 : m_dn M_law 359 (.aload_n 1) 1 360 := by decide +kernel
theorem d_law_360 : m_dn M_law 360 (.aload_n 0) 1 361 := by decide +kernel
theorem d_law_361 : m_dn M_law 361 (.iload 4) 2 363 := by decide +kernel
theorem d_law_363 : m_dn M_law 363 (.iconst 1) 1 364 := by decide +kernel
theorem d_law_364 : m_dn M_law 364 (.iadd) 1 365 := by decide +kernel
theorem d_law_365 : m_dn M_law 365 (.iaload) 1 366 := by decide +kernel
theorem d_law_366 : m_dn M_law 366 (.aload_n 0) 1 367 := by decide +kernel
theorem d_law_367 : m_dn M_law 367 (.iload 4) 2 369 := by decide +kernel
theorem d_law_369 : m_dn M_law 369 (.iconst 2) 1 370 := by decide +kernel
theorem d_law_370 : m_dn M_law 370 (.iadd) 1 371 := by decide +kernel
theorem d_law_371 : m_dn M_law 371 (.iaload) 1 372 := by decide +kernel
theorem d_law_372 : m_dn M_law 372 (.invokevirtual 72) 3 375 := by decide +kernel
theorem d_law_375 : m_dn M_law 375 (.aload_n 2) 1 376 := by decide +kernel
theorem d_law_376 : m_dn M_law 376 (.aload_n 0) 1 377 := by decide +kernel
theorem d_law_377 : m_dn M_law 377 (.iload 4) 2 379 := by decide +kernel
theorem d_law_379 : m_dn M_law 379 (.iconst 1) 1 380 := by decide +kernel
theorem d_law_380 : m_dn M_law 380 (.iadd) 1 381 := by decide +kernel
theorem d_law_381 : m_dn M_law 381 (.iaload) 1 382 := by decide +kernel
theorem d_law_382 : m_dn M_law 382 (.aload_n 0) 1 383 := by decide +kernel
theorem d_law_383 : m_dn M_law 383 (.iload 4) 2 385 := by decide +kernel
theorem d_law_385 : m_dn M_law 385 (.iconst 2) 1 386 := by decide +kernel
theorem d_law_386 : m_dn M_law 386 (.iadd) 1 387 := by decide +kernel
theorem d_law_387 : m_dn M_law 387 (.iaload) 1 388 := by decide +kernel
theorem d_law_388 : m_dn M_law 388 (.invokevirtual 75) 3 391 := by decide +kernel
theorem d_law_391 : m_dn M_law 391 (.if_icmp .eq 425) 3 394 := by decide +kernel
theorem d_law_452 : m_dn M_law 452 (.aload_n 1) 1 453 := by decide +kernel
theorem d_law_453 : m_dn M_law 453 (.aload_n 0) 1 454 := by decide +kernel
theorem d_law_454 : m_dn M_law 454 (.iload 4) 2 456 := by decide +kernel
theorem d_law_456 : m_dn M_law 456 (.iconst 1) 1 457 := by decide +kernel
theorem d_law_457 : m_dn M_law 457 (.iadd) 1 458 := by decide +kernel
theorem d_law_458 : m_dn M_law 458 (.iaload) 1 459 := by decide +kernel
theorem d_law_459 : m_dn M_law 459 (.invokevirtual 80) 3 462 := by decide +kernel
theorem d_law_462 : m_dn M_law 462 (.aload_n 2) 1 463 := by decide +kernel
theorem d_law_463 : m_dn M_law 463 (.aload_n 0) 1 464 := by decide +kernel
theorem d_law_464 : m_dn M_law 464 (.iload 4) 2 466 := by decide +kernel
theorem d_law_466 : m_dn M_law 466 (.iconst 1) 1 467 := by decide +kernel
theorem d_law_467 : m_dn M_law 467 (.iadd) 1 468 := by decide +kernel
theorem d_law_468 : m_dn M_law 468 (.iaload) 1 469 := by decide +kernel
theorem d_law_469 : m_dn M_law 469 (.invokevirtual 83) 3 472 := by decide +kernel
theorem d_law_472 : m_dn M_law 472 (.if_icmp .eq 344) 3 475 := by decide +kernel
theorem d_law_477 : m_dn M_law 477 (.aload_n 1) 1 478 := by decide +kernel
theorem d_law_478 : m_dn M_law 478 (.aload_n 0) 1 479 := by decide +kernel
theorem d_law_479 : m_dn M_law 479 (.iload 4) 2 481 := by decide +kernel
theorem d_law_481 : m_dn M_law 481 (.iconst 1) 1 482 := by decide +kernel
theorem d_law_482 : m_dn M_law 482 (.iadd) 1 483 := by decide +kernel
theorem d_law_483 : m_dn M_law 483 (.iaload) 1 484 := by decide +kernel
theorem d_law_484 : m_dn M_law 484 (.invokevirtual 84) 3 487 := by decide +kernel
theorem d_law_487 : m_dn M_law 487 (.aload_n 2) 1 488 := by decide +kernel
theorem d_law_488 : m_dn M_law 488 (.aload_n 0) 1 489 := by decide +kernel
theorem d_law_489 : m_dn M_law 489 (.iload 4) 2 491 := by decide +kernel
theorem d_law_491 : m_dn M_law 491 (.iconst 1) 1 492 := by decide +kernel
theorem d_law_492 : m_dn M_law 492 (.iadd) 1 493 := by decide +kernel
theorem d_law_493 : m_dn M_law 493 (.iaload) 1 494 := by decide +kernel
theorem d_law_494 : m_dn M_law 494 (.invokevirtual 87) 3 497 := by decide +kernel
theorem d_law_497 : m_dn M_law 497 (.if_icmp .eq 319) 3 500 := by decide +kernel
theorem d_law_502 : m_dn M_law 502 (.aload_n 1) 1 503 := by decide +kernel
theorem d_law_503 : m_dn M_law 503 (.aload_n 0) 1 504 := by decide +kernel
theorem d_law_504 : m_dn M_law 504 (.iload 4) 2 506 := by decide +kernel
theorem d_law_506 : m_dn M_law 506 (.iconst 1) 1 507 := by decide +kernel
theorem d_law_507 : m_dn M_law 507 (.iadd) 1 508 := by decide +kernel
theorem d_law_508 : m_dn M_law 508 (.iaload) 1 509 := by decide +kernel
theorem d_law_509 : m_dn M_law 509 (.aload_n 0) 1 510 := by decide +kernel
theorem d_law_510 : m_dn M_law 510 (.iload 4) 2 512 := by decide +kernel
theorem d_law_512 : m_dn M_law 512 (.iconst 2) 1 513 := by decide +kernel
theorem d_law_513 : m_dn M_law 513 (.iadd) 1 514 := by decide +kernel
theorem d_law_514 : m_dn M_law 514 (.iaload) 1 515 := by decide +kernel
theorem d_law_515 : m_dn M_law 515 (.invokevirtual 88) 3 518 := by decide +kernel
theorem d_law_518 : m_dn M_law 518 (.aload_n 2) 1 519 := by decide +kernel
theorem d_law_519 : m_dn M_law 519 (.aload_n 0) 1 520 := by decide +kernel
theorem d_law_520 : m_dn M_law 520 (.iload 4) 2 522 := by decide +kernel
theorem d_law_522 : m_dn M_law 522 (.iconst 1) 1 523 := by decide +kernel
theorem d_law_523 : m_dn M_law 523 (.iadd) 1 524 := by decide +kernel
theorem d_law_524 : m_dn M_law 524 (.iaload) 1 525 := by decide +kernel
theorem d_law_525 : m_dn M_law 525 (.aload_n 0) 1 526 := by decide +kernel
theorem d_law_526 : m_dn M_law 526 (.iload 4) 2 528 := by decide +kernel
theorem d_law_528 : m_dn M_law 528 (.iconst 2) 1 529 := by decide +kernel
theorem d_law_529 : m_dn M_law 529 (.iadd) 1 530 := by decide +kernel
theorem d_law_530 : m_dn M_law 530 (.iaload) 1 531 := by decide +kernel
theorem d_law_531 : m_dn M_law 531 (.invokevirtual 92) 3 534 := by decide +kernel
theorem d_law_534 : m_dn M_law 534 (.if_icmp .eq 282) 3 537 := by decide +kernel
theorem d_law_607 : m_dn M_law 607 (.aload_n 1) 1 608 := by decide +kernel
theorem d_law_608 : m_dn M_law 608 (.aload_n 0) 1 609 := by decide +kernel
theorem d_law_609 : m_dn M_law 609 (.iload 4) 2 611 := by decide +kernel
theorem d_law_611 : m_dn M_law 611 (.iconst 1) 1 612 := by decide +kernel
theorem d_law_612 : m_dn M_law 612 (.iadd) 1 613 := by decide +kernel
theorem d_law_613 : m_dn M_law 613 (.iaload) 1 614 := by decide +kernel
theorem d_law_614 : m_dn M_law 614 (.aload_n 0) 1 615 := by decide +kernel
theorem d_law_615 : m_dn M_law 615 (.iload 4) 2 617 := by decide +kernel
theorem d_law_617 : m_dn M_law 617 (.iconst 2) 1 618 := by decide +kernel
theorem d_law_618 : m_dn M_law 618 (.iadd) 1 619 := by decide +kernel
theorem d_law_619 : m_dn M_law 619 (.iaload) 1 620 := by decide +kernel
theorem d_law_620 : m_dn M_law 620 (.invokevirtual 97) 3 623 := by decide +kernel
theorem d_law_623 : m_dn M_law 623 (.aload_n 2) 1 624 := by decide +kernel
theorem d_law_624 : m_dn M_law 624 (.aload_n 0) 1 625 := by decide +kernel
theorem d_law_625 : m_dn M_law 625 (.iload 4) 2 627 := by decide +kernel
theorem d_law_627 : m_dn M_law 627 (.iconst 1) 1 628 := by decide +kernel
theorem d_law_628 : m_dn M_law 628 (.iadd) 1 629 := by decide +kernel
theorem d_law_629 : m_dn M_law 629 (.iaload) 1 630 := by decide +kernel
theorem d_law_630 : m_dn M_law 630 (.aload_n 0) 1 631 := by decide +kernel
theorem d_law_631 : m_dn M_law 631 (.iload 4) 2 633 := by decide +kernel
theorem d_law_633 : m_dn M_law 633 (.iconst 2) 1 634 := by decide +kernel
theorem d_law_634 : m_dn M_law 634 (.iadd) 1 635 := by decide +kernel
theorem d_law_635 : m_dn M_law 635 (.iaload) 1 636 := by decide +kernel
theorem d_law_636 : m_dn M_law 636 (.invokevirtual 100) 3 639 := by decide +kernel
theorem d_law_639 : m_dn M_law 639 (.if_icmp .eq 177) 3 642 := by decide +kernel
theorem d_law_644 : m_dn M_law 644 (.aload_n 1) 1 645 := by decide +kernel
theorem d_law_645 : m_dn M_law 645 (.aload_n 0) 1 646 := by decide +kernel
theorem d_law_646 : m_dn M_law 646 (.iload 4) 2 648 := by decide +kernel
theorem d_law_648 : m_dn M_law 648 (.iconst 1) 1 649 := by decide +kernel
theorem d_law_649 : m_dn M_law 649 (.iadd) 1 650 := by decide +kernel
theorem d_law_650 : m_dn M_law 650 (.iaload) 1 651 := by decide +kernel
theorem d_law_651 : m_dn M_law 651 (.aload_n 0) 1 652 := by decide +kernel
theorem d_law_652 : m_dn M_law 652 (.iload 4) 2 654 := by decide +kernel
theorem d_law_654 : m_dn M_law 654 (.iconst 2) 1 655 := by decide +kernel
theorem d_law_655 : m_dn M_law 655 (.iadd) 1 656 := by decide +kernel
theorem d_law_656 : m_dn M_law 656 (.iaload) 1 657 := by decide +kernel
theorem d_law_657 : m_dn M_law 657 (.invokevirtual 101) 3 660 := by decide +kernel
theorem d_law_660 : m_dn M_law 660 (.aload_n 2) 1 661 := by decide +kernel
theorem d_law_661 : m_dn M_law 661 (.aload_n 0) 1 662 := by decide +kernel
theorem d_law_662 : m_dn M_law 662 (.iload 4) 2 664 := by decide +kernel
theorem d_law_664 : m_dn M_law 664 (.iconst 1) 1 665 := by decide +kernel
theorem d_law_665 : m_dn M_law 665 (.iadd) 1 666 := by decide +kernel
theorem d_law_666 : m_dn M_law 666 (.iaload) 1 667 := by decide +kernel
theorem d_law_667 : m_dn M_law 667 (.aload_n 0) 1 668 := by decide +kernel
theorem d_law_668 : m_dn M_law 668 (.iload 4) 2 670 := by decide +kernel
theorem d_law_670 : m_dn M_law 670 (.iconst 2) 1 671 := by decide +kernel
theorem d_law_671 : m_dn M_law 671 (.iadd) 1 672 := by decide +kernel
theorem d_law_672 : m_dn M_law 672 (.iaload) 1 673 := by decide +kernel
theorem d_law_673 : m_dn M_law 673 (.invokevirtual 104) 3 676 := by decide +kernel
theorem d_law_676 : m_dn M_law 676 (.if_icmp .eq 140) 3 679 := by decide +kernel
theorem d_law_681 : m_dn M_law 681 (.aload_n 1) 1 682 := by decide +kernel
theorem d_law_682 : m_dn M_law 682 (.aload_n 0) 1 683 := by decide +kernel
theorem d_law_683 : m_dn M_law 683 (.iload 4) 2 685 := by decide +kernel
theorem d_law_685 : m_dn M_law 685 (.iconst 1) 1 686 := by decide +kernel
theorem d_law_686 : m_dn M_law 686 (.iadd) 1 687 := by decide +kernel
theorem d_law_687 : m_dn M_law 687 (.iaload) 1 688 := by decide +kernel
theorem d_law_688 : m_dn M_law 688 (.aload_n 0) 1 689 := by decide +kernel
theorem d_law_689 : m_dn M_law 689 (.iload 4) 2 691 := by decide +kernel
theorem d_law_691 : m_dn M_law 691 (.iconst 2) 1 692 := by decide +kernel
theorem d_law_692 : m_dn M_law 692 (.iadd) 1 693 := by decide +kernel
theorem d_law_693 : m_dn M_law 693 (.iaload) 1 694 := by decide +kernel
theorem d_law_694 : m_dn M_law 694 (.aload_n 0) 1 695 := by decide +kernel
theorem d_law_695 : m_dn M_law 695 (.iload 4) 2 697 := by decide +kernel
theorem d_law_697 : m_dn M_law 697 (.iconst 3) 1 698 := by decide +kernel
theorem d_law_698 : m_dn M_law 698 (.iadd) 1 699 := by decide +kernel
theorem d_law_699 : m_dn M_law 699 (.iaload) 1 700 := by decide +kernel
theorem d_law_700 : m_dn M_law 700 (.aload_n 0) 1 701 := by decide +kernel
theorem d_law_701 : m_dn M_law 701 (.iload 4) 2 703 := by decide +kernel
theorem d_law_703 : m_dn M_law 703 (.iconst 4) 1 704 := by decide +kernel
theorem d_law_704 : m_dn M_law 704 (.iadd) 1 705 := by decide +kernel
theorem d_law_705 : m_dn M_law 705 (.iaload) 1 706 := by decide +kernel
theorem d_law_706 : m_dn M_law 706 (.aload_n 0) 1 707 := by decide +kernel
theorem d_law_707 : m_dn M_law 707 (.iload 4) 2 709 := by decide +kernel
theorem d_law_709 : m_dn M_law 709 (.iconst 5) 1 710 := by decide +kernel
theorem d_law_710 : m_dn M_law 710 (.iadd) 1 711 := by decide +kernel
theorem d_law_711 : m_dn M_law 711 (.iaload) 1 712 := by decide +kernel
theorem d_law_712 : m_dn M_law 712 (.invokevirtual 105) 3 715 := by decide +kernel
theorem d_law_715 : m_dn M_law 715 (.aload_n 2) 1 716 := by decide +kernel
theorem d_law_716 : m_dn M_law 716 (.aload_n 0) 1 717 := by decide +kernel
theorem d_law_717 : m_dn M_law 717 (.iload 4) 2 719 := by decide +kernel
theorem d_law_719 : m_dn M_law 719 (.iconst 1) 1 720 := by decide +kernel
theorem d_law_720 : m_dn M_law 720 (.iadd) 1 721 := by decide +kernel
theorem d_law_721 : m_dn M_law 721 (.iaload) 1 722 := by decide +kernel
theorem d_law_722 : m_dn M_law 722 (.aload_n 0) 1 723 := by decide +kernel
theorem d_law_723 : m_dn M_law 723 (.iload 4) 2 725 := by decide +kernel
theorem d_law_725 : m_dn M_law 725 (.iconst 2) 1 726 := by decide +kernel
theorem d_law_726 : m_dn M_law 726 (.iadd) 1 727 := by decide +kernel
theorem d_law_727 : m_dn M_law 727 (.iaload) 1 728 := by decide +kernel
theorem d_law_728 : m_dn M_law 728 (.aload_n 0) 1 729 := by decide +kernel
theorem d_law_729 : m_dn M_law 729 (.iload 4) 2 731 := by decide +kernel
theorem d_law_731 : m_dn M_law 731 (.iconst 3) 1 732 := by decide +kernel
theorem d_law_732 : m_dn M_law 732 (.iadd) 1 733 := by decide +kernel
theorem d_law_733 : m_dn M_law 733 (.iaload) 1 734 := by decide +kernel
theorem d_law_734 : m_dn M_law 734 (.aload_n 0) 1 735 := by decide +kernel
theorem d_law_735 : m_dn M_law 735 (.iload 4) 2 737 := by decide +kernel
theorem d_law_737 : m_dn M_law 737 (.iconst 4) 1 738 := by decide +kernel
theorem d_law_738 : m_dn M_law 738 (.iadd) 1 739 := by decide +kernel
theorem d_law_739 : m_dn M_law 739 (.iaload) 1 740 := by decide +kernel
theorem d_law_740 : m_dn M_law 740 (.aload_n 0) 1 741 := by decide +kernel
theorem d_law_741 : m_dn M_law 741 (.iload 4) 2 743 := by decide +kernel
theorem d_law_743 : m_dn M_law 743 (.iconst 5) 1 744 := by decide +kernel
theorem d_law_744 : m_dn M_law 744 (.iadd) 1 745 := by decide +kernel
theorem d_law_745 : m_dn M_law 745 (.iaload) 1 746 := by decide +kernel
theorem d_law_746 : m_dn M_law 746 (.invokevirtual 109) 3 749 := by decide +kernel
theorem d_law_749 : m_dn M_law 749 (.if_icmp .eq 67) 3 752 := by decide +kernel
theorem d_law_754 : m_dn M_law 754 (.aload_n 1) 1 755 := by decide +kernel
theorem d_law_755 : m_dn M_law 755 (.aload_n 0) 1 756 := by decide +kernel
theorem d_law_756 : m_dn M_law 756 (.iload 4) 2 758 := by decide +kernel
theorem d_law_758 : m_dn M_law 758 (.iconst 1) 1 759 := by decide +kernel
theorem d_law_759 : m_dn M_law 759 (.iadd) 1 760 := by decide +kernel
theorem d_law_760 : m_dn M_law 760 (.iaload) 1 761 := by decide +kernel
theorem d_law_761 : m_dn M_law 761 (.aload_n 0) 1 762 := by decide +kernel
theorem d_law_762 : m_dn M_law 762 (.iload 4) 2 764 := by decide +kernel
theorem d_law_764 : m_dn M_law 764 (.iconst 2) 1 765 := by decide +kernel
theorem d_law_765 : m_dn M_law 765 (.iadd) 1 766 := by decide +kernel
theorem d_law_766 : m_dn M_law 766 (.iaload) 1 767 := by decide +kernel
theorem d_law_767 : m_dn M_law 767 (.invokevirtual 110) 3 770 := by decide +kernel
theorem d_law_770 : m_dn M_law 770 (.aload_n 2) 1 771 := by decide +kernel
theorem d_law_771 : m_dn M_law 771 (.aload_n 0) 1 772 := by decide +kernel
theorem d_law_772 : m_dn M_law 772 (.iload 4) 2 774 := by decide +kernel
theorem d_law_774 : m_dn M_law 774 (.iconst 1) 1 775 := by decide +kernel
theorem d_law_775 : m_dn M_law 775 (.iadd) 1 776 := by decide +kernel
theorem d_law_776 : m_dn M_law 776 (.iaload) 1 777 := by decide +kernel
theorem d_law_777 : m_dn M_law 777 (.aload_n 0) 1 778 := by decide +kernel
theorem d_law_778 : m_dn M_law 778 (.iload 4) 2 780 := by decide +kernel
theorem d_law_780 : m_dn M_law 780 (.iconst 2) 1 781 := by decide +kernel
theorem d_law_781 : m_dn M_law 781 (.iadd) 1 782 := by decide +kernel
theorem d_law_782 : m_dn M_law 782 (.iaload) 1 783 := by decide +kernel
theorem d_law_783 : m_dn M_law 783 (.invokevirtual 113) 3 786 := by decide +kernel
theorem d_law_786 : m_dn M_law 786 (.if_icmp .eq 30) 3 789 := by decide +kernel
theorem d_law_791 : m_dn M_law 791 (.aload_n 1) 1 792 := by decide +kernel
theorem d_law_792 : m_dn M_law 792 (.aload_n 0) 1 793 := by decide +kernel
theorem d_law_793 : m_dn M_law 793 (.iload 4) 2 795 := by decide +kernel
theorem d_law_795 : m_dn M_law 795 (.iconst 1) 1 796 := by decide +kernel
theorem d_law_796 : m_dn M_law 796 (.iadd) 1 797 := by decide +kernel
theorem d_law_797 : m_dn M_law 797 (.iaload) 1 798 := by decide +kernel
theorem d_law_798 : m_dn M_law 798 (.invokevirtual 114) 3 801 := by decide +kernel
theorem d_law_801 : m_dn M_law 801 (.aload_n 2) 1 802 := by decide +kernel
theorem d_law_802 : m_dn M_law 802 (.aload_n 0) 1 803 := by decide +kernel
theorem d_law_803 : m_dn M_law 803 (.iload 4) 2 805 := by decide +kernel
theorem d_law_805 : m_dn M_law 805 (.iconst 1) 1 806 := by decide +kernel
theorem d_law_806 : m_dn M_law 806 (.iadd) 1 807 := by decide +kernel
theorem d_law_807 : m_dn M_law 807 (.iaload) 1 808 := by decide +kernel
theorem d_law_808 : m_dn M_law 808 (.invokevirtual 117) 3 811 := by decide +kernel
theorem d_law_811 : m_dn M_law 811 (.if_icmp .eq 5) 3 814 := by decide +kernel
section
variable {l : Launch} {n i C U F : Nat} {sc : Nat → Int32} {w : List mM} {T T' : tT} {S S' : mS} {hs : List Value} {v : Int32}
theorem w_type (hi : i + 5 < n) (hn : n < 2147483648) (hT : RT T w) (hM : m_RM S w) (h5 : T.1 512 = some (.inl (0, hs))) (h6 : 630 < T.2.1) (h7 : T.2.1 ≤ T'.2.1) (hc : D_c_EdgeHouse_type F 512 (((((sc (i + 1)).toInt64) <<< ((32 : Int32).toInt64 &&& 63)) ||| (((sc (i + 2)).toInt64) &&& 4294967295))) ((sc (i + 3))) T = some (v, T')) (hm : D_m_type F (((((sc (i + 1)).toInt64) <<< ((32 : Int32).toInt64 &&& 63)) ||| (((sc (i + 2)).toInt64) &&& 4294967295))) ((sc (i + 3))) S = some (v, S')) (c1 : T'.2.1 ≤ C) (c2 : T'.2.2 ≤ U) (k : ∀ w', RT T' w' → m_RM S' w' → m_Law l n sc (816, [(4, .int (Int32.ofNat i)), (3, .ref 630), (2, .ref 583), (1, .ref 512), (0, .ref 500)], [], w') (C - T'.2.1) (U - T'.2.2)) : m_Law l n sc (132, [(4, .int (Int32.ofNat i)), (3, .ref 630), (2, .ref 583), (1, .ref 512), (0, .ref 500)], [], w) (C - T.2.1) (U - T.2.2) := by
  refine m_Law.n0 (x_aload_n d_law_132 rfl) ?_
  refine m_Law.n0 (x_aload_n d_law_133 rfl) ?_
  refine m_Law.n0 (x_iload d_law_134 rfl) ?_
  refine m_Law.n0 (x_iconst (z := Int32.ofNat 1) d_law_136 (by decide)) ?_
  refine m_Law.n0 (x_iadd d_law_137 rfl) ?_
  refine m_Law.ldi 1 d_law_138.1 (by omega) hn ?_
  refine m_Law.n0 (x_i2l d_law_139 rfl) ?_
  refine m_Law.n0 (x_bipush (z := 32) d_law_140 (by decide)) ?_
  refine m_Law.n0 (x_lshl d_law_142 rfl) ?_
  refine m_Law.n0 (x_aload_n d_law_143 rfl) ?_
  refine m_Law.n0 (x_iload d_law_144 rfl) ?_
  refine m_Law.n0 (x_iconst (z := Int32.ofNat 2) d_law_146 (by decide)) ?_
  refine m_Law.n0 (x_iadd d_law_147 rfl) ?_
  refine m_Law.ldi 2 d_law_148.1 (by omega) hn ?_
  refine m_Law.n0 (x_i2l d_law_149 rfl) ?_
  refine m_Law.n0 (x_ldc2 d_law_150 rfl) ?_
  refine m_Law.n0 (x_land d_law_153 rfl) ?_
  refine m_Law.n0 (x_lor d_law_154 rfl) ?_
  refine m_Law.n0 (x_aload_n d_law_155 rfl) ?_
  refine m_Law.n0 (x_iload d_law_156 rfl) ?_
  refine m_Law.n0 (x_iconst (z := Int32.ofNat 3) d_law_158 (by decide)) ?_
  refine m_Law.n0 (x_iadd d_law_159 rfl) ?_
  refine m_Law.ldi 3 d_law_160.1 (by omega) hn ?_
  have r1 : m_at w 512 = some (.inr (0, hs)) := (hT.obj h5).1
  refine m_Law.callB (T1 := T') (S := S) (C := C) (U := U) (y_cv d_law_161 rfl q_12 (m_isRecv_of rfl r1) (show m_takeI _ _ = some (_, [_, _, _], []) from rfl) (by simp only [m_okf, List.all_cons, List.all_nil, Bool.and_true, Bool.and_self, m_okv_i, m_okv_l, m_okv_0, m_okv_t, m_okv_out (a := 500) (by decide), m_okv_at r1, hT.ok (a := 583) (by omega), hT.ok (a := 630) (by omega)]) rfl) (T_c_EdgeHouse_type (okr_some (by omega)) hT hc) hM c1 c2 rfl (fun w1 hT1 hM1 => ?_) (by decide) (by decide)
  refine m_Law.n0 (x_aload_n d_law_164 rfl) ?_
  refine m_Law.n0 (x_aload_n d_law_165 rfl) ?_
  refine m_Law.n0 (x_iload d_law_166 rfl) ?_
  refine m_Law.n0 (x_iconst (z := Int32.ofNat 1) d_law_168 (by decide)) ?_
  refine m_Law.n0 (x_iadd d_law_169 rfl) ?_
  refine m_Law.ldi 1 d_law_170.1 (by omega) hn ?_
  refine m_Law.n0 (x_i2l d_law_171 rfl) ?_
  refine m_Law.n0 (x_bipush (z := 32) d_law_172 (by decide)) ?_
  refine m_Law.n0 (x_lshl d_law_174 rfl) ?_
  refine m_Law.n0 (x_aload_n d_law_175 rfl) ?_
  refine m_Law.n0 (x_iload d_law_176 rfl) ?_
  refine m_Law.n0 (x_iconst (z := Int32.ofNat 2) d_law_178 (by decide)) ?_
  refine m_Law.n0 (x_iadd d_law_179 rfl) ?_
  refine m_Law.ldi 2 d_law_180.1 (by omega) hn ?_
  refine m_Law.n0 (x_i2l d_law_181 rfl) ?_
  refine m_Law.n0 (x_ldc2 d_law_182 rfl) ?_
  refine m_Law.n0 (x_land d_law_185 rfl) ?_
  refine m_Law.n0 (x_lor d_law_186 rfl) ?_
  refine m_Law.n0 (x_aload_n d_law_187 rfl) ?_
  refine m_Law.n0 (x_iload d_law_188 rfl) ?_
  refine m_Law.n0 (x_iconst (z := Int32.ofNat 3) d_law_190 (by decide)) ?_
  refine m_Law.n0 (x_iadd d_law_191 rfl) ?_
  refine m_Law.ldi 3 d_law_192.1 (by omega) hn ?_
  refine m_Law.callM (y_cv d_law_193 rfl q_242 (m_isRecv_of rfl hM1.1) (show m_takeI _ _ = some (_, [_, _, _], [_]) from rfl) (by simp only [m_okf, List.all_cons, List.all_nil, Bool.and_true, Bool.and_self, m_okv_i, m_okv_l, m_okv_0, m_okv_t, m_okv_out (a := 500) (by decide), m_okv_at hM1.1, hT1.ok (a := 512) (by omega), hT1.ok (a := 630) (by omega)]) rfl) (T_m_type hM1 hm) hT1 rfl (fun w2 hT2 hM2 _ => ?_) (by decide) (by decide)
  exact m_Law.n0 (x_ict d_law_196 rfl (decide_eq_true rfl)) (k w2 hT2 hM2)
theorem w_drop (hi : i + 5 < n) (hn : n < 2147483648) (hT : RT T w) (hM : m_RM S w) (h5 : T.1 512 = some (.inl (0, hs))) (h6 : 630 < T.2.1) (h7 : T.2.1 ≤ T'.2.1) (hc : D_c_EdgeHouse_drop F 512 ((sc (i + 1))) T = some (v, T')) (hm : D_m_drop F ((sc (i + 1))) S = some (v, S')) (c1 : T'.2.1 ≤ C) (c2 : T'.2.2 ≤ U) (k : ∀ w', RT T' w' → m_RM S' w' → m_Law l n sc (816, [(4, .int (Int32.ofNat i)), (3, .ref 630), (2, .ref 583), (1, .ref 512), (0, .ref 500)], [], w') (C - T'.2.1) (U - T'.2.2)) : m_Law l n sc (245, [(4, .int (Int32.ofNat i)), (3, .ref 630), (2, .ref 583), (1, .ref 512), (0, .ref 500)], [], w) (C - T.2.1) (U - T.2.2) := by
  refine m_Law.n0 (x_aload_n d_law_245 rfl) ?_
  refine m_Law.n0 (x_aload_n d_law_246 rfl) ?_
  refine m_Law.n0 (x_iload d_law_247 rfl) ?_
  refine m_Law.n0 (x_iconst (z := Int32.ofNat 1) d_law_249 (by decide)) ?_
  refine m_Law.n0 (x_iadd d_law_250 rfl) ?_
  refine m_Law.ldi 1 d_law_251.1 (by omega) hn ?_
  have r1 : m_at w 512 = some (.inr (0, hs)) := (hT.obj h5).1
  refine m_Law.callB (T1 := T') (S := S) (C := C) (U := U) (y_cv d_law_252 rfl q_14 (m_isRecv_of rfl r1) (show m_takeI _ _ = some (_, [_, _], []) from rfl) (by simp only [m_okf, List.all_cons, List.all_nil, Bool.and_true, Bool.and_self, m_okv_i, m_okv_l, m_okv_0, m_okv_t, m_okv_out (a := 500) (by decide), m_okv_at r1, hT.ok (a := 583) (by omega), hT.ok (a := 630) (by omega)]) rfl) (T_c_EdgeHouse_drop (okr_some (by omega)) hT hc) hM c1 c2 rfl (fun w1 hT1 hM1 => ?_) (by decide) (by decide)
  refine m_Law.n0 (x_aload_n d_law_255 rfl) ?_
  refine m_Law.n0 (x_aload_n d_law_256 rfl) ?_
  refine m_Law.n0 (x_iload d_law_257 rfl) ?_
  refine m_Law.n0 (x_iconst (z := Int32.ofNat 1) d_law_259 (by decide)) ?_
  refine m_Law.n0 (x_iadd d_law_260 rfl) ?_
  refine m_Law.ldi 1 d_law_261.1 (by omega) hn ?_
  refine m_Law.callM (y_cv d_law_262 rfl q_268 (m_isRecv_of rfl hM1.1) (show m_takeI _ _ = some (_, [_, _], [_]) from rfl) (by simp only [m_okf, List.all_cons, List.all_nil, Bool.and_true, Bool.and_self, m_okv_i, m_okv_l, m_okv_0, m_okv_t, m_okv_out (a := 500) (by decide), m_okv_at hM1.1, hT1.ok (a := 512) (by omega), hT1.ok (a := 630) (by omega)]) rfl) (T_m_drop hM1 hm) hT1 rfl (fun w2 hT2 hM2 _ => ?_) (by decide) (by decide)
  exact m_Law.n0 (x_ict d_law_265 rfl (decide_eq_true rfl)) (k w2 hT2 hM2)
theorem w_ask (hi : i + 5 < n) (hn : n < 2147483648) (hT : RT T w) (hM : m_RM S w) (h5 : T.1 512 = some (.inl (0, hs))) (h6 : 630 < T.2.1) (h7 : T.2.1 ≤ T'.2.1) (hc : D_c_EdgeHouse_ask F 512  T = some (v, T')) (hm : D_m_ask F  S = some (v, S')) (c1 : T'.2.1 ≤ C) (c2 : T'.2.2 ≤ U) (k : ∀ w', RT T' w' → m_RM S' w' → m_Law l n sc (816, [(4, .int (Int32.ofNat i)), (3, .ref 630), (2, .ref 583), (1, .ref 512), (0, .ref 500)], [], w') (C - T'.2.1) (U - T'.2.2)) : m_Law l n sc (270, [(4, .int (Int32.ofNat i)), (3, .ref 630), (2, .ref 583), (1, .ref 512), (0, .ref 500)], [], w) (C - T.2.1) (U - T.2.2) := by
  refine m_Law.n0 (x_aload_n d_law_270 rfl) ?_
  have r1 : m_at w 512 = some (.inr (0, hs)) := (hT.obj h5).1
  refine m_Law.callB (T1 := T') (S := S) (C := C) (U := U) (y_cv d_law_271 rfl q_16 (m_isRecv_of rfl r1) (show m_takeI _ _ = some (_, [_], []) from rfl) (by simp only [m_okf, List.all_cons, List.all_nil, Bool.and_true, Bool.and_self, m_okv_i, m_okv_l, m_okv_0, m_okv_t, m_okv_out (a := 500) (by decide), m_okv_at r1, hT.ok (a := 583) (by omega), hT.ok (a := 630) (by omega)]) rfl) (T_c_EdgeHouse_ask (okr_some (by omega)) hT hc) hM c1 c2 rfl (fun w1 hT1 hM1 => ?_) (by decide) (by decide)
  refine m_Law.n0 (x_aload_n d_law_274 rfl) ?_
  refine m_Law.callM (y_cv d_law_275 rfl q_269 (m_isRecv_of rfl hM1.1) (show m_takeI _ _ = some (_, [_], [_]) from rfl) (by simp only [m_okf, List.all_cons, List.all_nil, Bool.and_true, Bool.and_self, m_okv_i, m_okv_l, m_okv_0, m_okv_t, m_okv_out (a := 500) (by decide), m_okv_at hM1.1, hT1.ok (a := 512) (by omega), hT1.ok (a := 630) (by omega)]) rfl) (T_m_ask hM1 hm) hT1 rfl (fun w2 hT2 hM2 _ => ?_) (by decide) (by decide)
  exact m_Law.n0 (x_ict d_law_278 rfl (decide_eq_true rfl)) (k w2 hT2 hM2)
theorem w_fault (hi : i + 5 < n) (hn : n < 2147483648) (hT : RT T w) (hM : m_RM S w) (h5 : T.1 512 = some (.inl (0, hs))) (h6 : 630 < T.2.1) (h7 : T.2.1 ≤ T.2.1) (hc : D_c_EdgeHouse_fault F 512  T = some v) (hm : D_m_fault F  S = some (v, S')) (c1 : T.2.1 ≤ C) (c2 : T.2.2 ≤ U) (k : ∀ w', RT T w' → m_RM S' w' → m_Law l n sc (816, [(4, .int (Int32.ofNat i)), (3, .ref 630), (2, .ref 583), (1, .ref 512), (0, .ref 500)], [], w') (C - T.2.1) (U - T.2.2)) : m_Law l n sc (283, [(4, .int (Int32.ofNat i)), (3, .ref 630), (2, .ref 583), (1, .ref 512), (0, .ref 500)], [], w) (C - T.2.1) (U - T.2.2) := by
  refine m_Law.n0 (x_aload_n d_law_283 rfl) ?_
  have r1 : m_at w 512 = some (.inr (0, hs)) := (hT.obj h5).1
  refine m_Law.callB (T1 := T) (S := S) (C := C) (U := U) (y_cv d_law_284 rfl q_125 (m_isRecv_of rfl r1) (show m_takeI _ _ = some (_, [_], []) from rfl) (by simp only [m_okf, List.all_cons, List.all_nil, Bool.and_true, Bool.and_self, m_okv_i, m_okv_l, m_okv_0, m_okv_t, m_okv_out (a := 500) (by decide), m_okv_at r1, hT.ok (a := 583) (by omega), hT.ok (a := 630) (by omega)]) rfl) (T_c_EdgeHouse_fault (okr_some (by omega)) hT hc) hM c1 c2 rfl (fun w1 hT1 hM1 => ?_) (by decide) (by decide)
  refine m_Law.n0 (x_aload_n d_law_287 rfl) ?_
  refine m_Law.callM (y_cv d_law_288 rfl q_313 (m_isRecv_of rfl hM1.1) (show m_takeI _ _ = some (_, [_], [_]) from rfl) (by simp only [m_okf, List.all_cons, List.all_nil, Bool.and_true, Bool.and_self, m_okv_i, m_okv_l, m_okv_0, m_okv_t, m_okv_out (a := 500) (by decide), m_okv_at hM1.1, hT1.ok (a := 512) (by omega), hT1.ok (a := 630) (by omega)]) rfl) (T_m_fault hM1 hm) hT1 rfl (fun w2 hT2 hM2 _ => ?_) (by decide) (by decide)
  exact m_Law.n0 (x_ict d_law_291 rfl (decide_eq_true rfl)) (k w2 hT2 hM2)
theorem w_deliver (hi : i + 5 < n) (hn : n < 2147483648) (hT : RT T w) (hM : m_RM S w) (h5 : T.1 512 = some (.inl (0, hs))) (h6 : 630 < T.2.1) (h7 : T.2.1 ≤ T'.2.1) (hc : D_c_EdgeHouse_deliver F 512 ((sc (i + 1))) T = some (v, T')) (hm : D_m_deliver F ((sc (i + 1))) S = some (v, S')) (c1 : T'.2.1 ≤ C) (c2 : T'.2.2 ≤ U) (k : ∀ w', RT T' w' → m_RM S' w' → m_Law l n sc (816, [(4, .int (Int32.ofNat i)), (3, .ref 630), (2, .ref 583), (1, .ref 512), (0, .ref 500)], [], w') (C - T'.2.1) (U - T'.2.2)) : m_Law l n sc (296, [(4, .int (Int32.ofNat i)), (3, .ref 630), (2, .ref 583), (1, .ref 512), (0, .ref 500)], [], w) (C - T.2.1) (U - T.2.2) := by
  refine m_Law.n0 (x_aload_n d_law_296 rfl) ?_
  refine m_Law.n0 (x_aload_n d_law_297 rfl) ?_
  refine m_Law.n0 (x_iload d_law_298 rfl) ?_
  refine m_Law.n0 (x_iconst (z := Int32.ofNat 1) d_law_300 (by decide)) ?_
  refine m_Law.n0 (x_iadd d_law_301 rfl) ?_
  refine m_Law.ldi 1 d_law_302.1 (by omega) hn ?_
  have r1 : m_at w 512 = some (.inr (0, hs)) := (hT.obj h5).1
  refine m_Law.callB (T1 := T') (S := S) (C := C) (U := U) (y_cv d_law_303 rfl q_126 (m_isRecv_of rfl r1) (show m_takeI _ _ = some (_, [_, _], []) from rfl) (by simp only [m_okf, List.all_cons, List.all_nil, Bool.and_true, Bool.and_self, m_okv_i, m_okv_l, m_okv_0, m_okv_t, m_okv_out (a := 500) (by decide), m_okv_at r1, hT.ok (a := 583) (by omega), hT.ok (a := 630) (by omega)]) rfl) (T_c_EdgeHouse_deliver (okr_some (by omega)) hT hc) hM c1 c2 rfl (fun w1 hT1 hM1 => ?_) (by decide) (by decide)
  refine m_Law.n0 (x_aload_n d_law_306 rfl) ?_
  refine m_Law.n0 (x_aload_n d_law_307 rfl) ?_
  refine m_Law.n0 (x_iload d_law_308 rfl) ?_
  refine m_Law.n0 (x_iconst (z := Int32.ofNat 1) d_law_310 (by decide)) ?_
  refine m_Law.n0 (x_iadd d_law_311 rfl) ?_
  refine m_Law.ldi 1 d_law_312.1 (by omega) hn ?_
  refine m_Law.callM (y_cv d_law_313 rfl q_314 (m_isRecv_of rfl hM1.1) (show m_takeI _ _ = some (_, [_, _], [_]) from rfl) (by simp only [m_okf, List.all_cons, List.all_nil, Bool.and_true, Bool.and_self, m_okv_i, m_okv_l, m_okv_0, m_okv_t, m_okv_out (a := 500) (by decide), m_okv_at hM1.1, hT1.ok (a := 512) (by omega), hT1.ok (a := 630) (by omega)]) rfl) (T_m_deliver hM1 hm) hT1 rfl (fun w2 hT2 hM2 _ => ?_) (by decide) (by decide)
  exact m_Law.n0 (x_ict d_law_316 rfl (decide_eq_true rfl)) (k w2 hT2 hM2)
theorem w_lose (hi : i + 5 < n) (hn : n < 2147483648) (hT : RT T w) (hM : m_RM S w) (h5 : T.1 512 = some (.inl (0, hs))) (h6 : 630 < T.2.1) (h7 : T.2.1 ≤ T'.2.1) (hc : D_c_EdgeHouse_lose F 512 ((sc (i + 1))) T = some (v, T')) (hm : D_m_lose F ((sc (i + 1))) S = some (v, S')) (c1 : T'.2.1 ≤ C) (c2 : T'.2.2 ≤ U) (k : ∀ w', RT T' w' → m_RM S' w' → m_Law l n sc (816, [(4, .int (Int32.ofNat i)), (3, .ref 630), (2, .ref 583), (1, .ref 512), (0, .ref 500)], [], w') (C - T'.2.1) (U - T'.2.2)) : m_Law l n sc (321, [(4, .int (Int32.ofNat i)), (3, .ref 630), (2, .ref 583), (1, .ref 512), (0, .ref 500)], [], w) (C - T.2.1) (U - T.2.2) := by
  refine m_Law.n0 (x_aload_n d_law_321 rfl) ?_
  refine m_Law.n0 (x_aload_n d_law_322 rfl) ?_
  refine m_Law.n0 (x_iload d_law_323 rfl) ?_
  refine m_Law.n0 (x_iconst (z := Int32.ofNat 1) d_law_325 (by decide)) ?_
  refine m_Law.n0 (x_iadd d_law_326 rfl) ?_
  refine m_Law.ldi 1 d_law_327.1 (by omega) hn ?_
  have r1 : m_at w 512 = some (.inr (0, hs)) := (hT.obj h5).1
  refine m_Law.callB (T1 := T') (S := S) (C := C) (U := U) (y_cv d_law_328 rfl q_148 (m_isRecv_of rfl r1) (show m_takeI _ _ = some (_, [_, _], []) from rfl) (by simp only [m_okf, List.all_cons, List.all_nil, Bool.and_true, Bool.and_self, m_okv_i, m_okv_l, m_okv_0, m_okv_t, m_okv_out (a := 500) (by decide), m_okv_at r1, hT.ok (a := 583) (by omega), hT.ok (a := 630) (by omega)]) rfl) (T_c_EdgeHouse_lose (okr_some (by omega)) hT hc) hM c1 c2 rfl (fun w1 hT1 hM1 => ?_) (by decide) (by decide)
  refine m_Law.n0 (x_aload_n d_law_331 rfl) ?_
  refine m_Law.n0 (x_aload_n d_law_332 rfl) ?_
  refine m_Law.n0 (x_iload d_law_333 rfl) ?_
  refine m_Law.n0 (x_iconst (z := Int32.ofNat 1) d_law_335 (by decide)) ?_
  refine m_Law.n0 (x_iadd d_law_336 rfl) ?_
  refine m_Law.ldi 1 d_law_337.1 (by omega) hn ?_
  refine m_Law.callM (y_cv d_law_338 rfl q_326 (m_isRecv_of rfl hM1.1) (show m_takeI _ _ = some (_, [_, _], [_]) from rfl) (by simp only [m_okf, List.all_cons, List.all_nil, Bool.and_true, Bool.and_self, m_okv_i, m_okv_l, m_okv_0, m_okv_t, m_okv_out (a := 500) (by decide), m_okv_at hM1.1, hT1.ok (a := 512) (by omega), hT1.ok (a := 630) (by omega)]) rfl) (T_m_lose hM1 hm) hT1 rfl (fun w2 hT2 hM2 _ => ?_) (by decide) (by decide)
  exact m_Law.n0 (x_ict d_law_341 rfl (decide_eq_true rfl)) (k w2 hT2 hM2)
theorem w_settle (hi : i + 5 < n) (hn : n < 2147483648) (hT : RT T w) (hM : m_RM S w) (h5 : T.1 512 = some (.inl (0, hs))) (h6 : 630 < T.2.1) (h7 : T.2.1 ≤ T'.2.1) (hc : D_c_EdgeHouse_settle F 512  T = some (v, T')) (hm : D_m_settle F  S = some (v, S')) (c1 : T'.2.1 ≤ C) (c2 : T'.2.2 ≤ U) (k : ∀ w', RT T' w' → m_RM S' w' → m_Law l n sc (816, [(4, .int (Int32.ofNat i)), (3, .ref 630), (2, .ref 583), (1, .ref 512), (0, .ref 500)], [], w') (C - T'.2.1) (U - T'.2.2)) : m_Law l n sc (346, [(4, .int (Int32.ofNat i)), (3, .ref 630), (2, .ref 583), (1, .ref 512), (0, .ref 500)], [], w) (C - T.2.1) (U - T.2.2) := by
  refine m_Law.n0 (x_aload_n d_law_346 rfl) ?_
  have r1 : m_at w 512 = some (.inr (0, hs)) := (hT.obj h5).1
  refine m_Law.callB (T1 := T') (S := S) (C := C) (U := U) (y_cv d_law_347 rfl q_149 (m_isRecv_of rfl r1) (show m_takeI _ _ = some (_, [_], []) from rfl) (by simp only [m_okf, List.all_cons, List.all_nil, Bool.and_true, Bool.and_self, m_okv_i, m_okv_l, m_okv_0, m_okv_t, m_okv_out (a := 500) (by decide), m_okv_at r1, hT.ok (a := 583) (by omega), hT.ok (a := 630) (by omega)]) rfl) (T_c_EdgeHouse_settle (okr_some (by omega)) hT hc) hM c1 c2 rfl (fun w1 hT1 hM1 => ?_) (by decide) (by decide)
  refine m_Law.n0 (x_aload_n d_law_350 rfl) ?_
  refine m_Law.callM (y_cv d_law_351 rfl q_327 (m_isRecv_of rfl hM1.1) (show m_takeI _ _ = some (_, [_], [_]) from rfl) (by simp only [m_okf, List.all_cons, List.all_nil, Bool.and_true, Bool.and_self, m_okv_i, m_okv_l, m_okv_0, m_okv_t, m_okv_out (a := 500) (by decide), m_okv_at hM1.1, hT1.ok (a := 512) (by omega), hT1.ok (a := 630) (by omega)]) rfl) (T_m_settle hM1 hm) hT1 rfl (fun w2 hT2 hM2 _ => ?_) (by decide) (by decide)
  exact m_Law.n0 (x_ict d_law_354 rfl (decide_eq_true rfl)) (k w2 hT2 hM2)
theorem w_purge (hi : i + 5 < n) (hn : n < 2147483648) (hT : RT T w) (hM : m_RM S w) (h5 : T.1 512 = some (.inl (0, hs))) (h6 : 630 < T.2.1) (h7 : T.2.1 ≤ T'.2.1) (hc : D_c_EdgeHouse_purge F 512 ((sc (i + 1))) ((sc (i + 2))) T = some (v, T')) (hm : D_m_purge F ((sc (i + 1))) ((sc (i + 2))) S = some (v, S')) (c1 : T'.2.1 ≤ C) (c2 : T'.2.2 ≤ U) (k : ∀ w', RT T' w' → m_RM S' w' → m_Law l n sc (816, [(4, .int (Int32.ofNat i)), (3, .ref 630), (2, .ref 583), (1, .ref 512), (0, .ref 500)], [], w') (C - T'.2.1) (U - T'.2.2)) : m_Law l n sc (359, [(4, .int (Int32.ofNat i)), (3, .ref 630), (2, .ref 583), (1, .ref 512), (0, .ref 500)], [], w) (C - T.2.1) (U - T.2.2) := by
  refine m_Law.n0 (x_aload_n d_law_359 rfl) ?_
  refine m_Law.n0 (x_aload_n d_law_360 rfl) ?_
  refine m_Law.n0 (x_iload d_law_361 rfl) ?_
  refine m_Law.n0 (x_iconst (z := Int32.ofNat 1) d_law_363 (by decide)) ?_
  refine m_Law.n0 (x_iadd d_law_364 rfl) ?_
  refine m_Law.ldi 1 d_law_365.1 (by omega) hn ?_
  refine m_Law.n0 (x_aload_n d_law_366 rfl) ?_
  refine m_Law.n0 (x_iload d_law_367 rfl) ?_
  refine m_Law.n0 (x_iconst (z := Int32.ofNat 2) d_law_369 (by decide)) ?_
  refine m_Law.n0 (x_iadd d_law_370 rfl) ?_
  refine m_Law.ldi 2 d_law_371.1 (by omega) hn ?_
  have r1 : m_at w 512 = some (.inr (0, hs)) := (hT.obj h5).1
  refine m_Law.callB (T1 := T') (S := S) (C := C) (U := U) (y_cv d_law_372 rfl q_150 (m_isRecv_of rfl r1) (show m_takeI _ _ = some (_, [_, _, _], []) from rfl) (by simp only [m_okf, List.all_cons, List.all_nil, Bool.and_true, Bool.and_self, m_okv_i, m_okv_l, m_okv_0, m_okv_t, m_okv_out (a := 500) (by decide), m_okv_at r1, hT.ok (a := 583) (by omega), hT.ok (a := 630) (by omega)]) rfl) (T_c_EdgeHouse_purge (okr_some (by omega)) hT hc) hM c1 c2 rfl (fun w1 hT1 hM1 => ?_) (by decide) (by decide)
  refine m_Law.n0 (x_aload_n d_law_375 rfl) ?_
  refine m_Law.n0 (x_aload_n d_law_376 rfl) ?_
  refine m_Law.n0 (x_iload d_law_377 rfl) ?_
  refine m_Law.n0 (x_iconst (z := Int32.ofNat 1) d_law_379 (by decide)) ?_
  refine m_Law.n0 (x_iadd d_law_380 rfl) ?_
  refine m_Law.ldi 1 d_law_381.1 (by omega) hn ?_
  refine m_Law.n0 (x_aload_n d_law_382 rfl) ?_
  refine m_Law.n0 (x_iload d_law_383 rfl) ?_
  refine m_Law.n0 (x_iconst (z := Int32.ofNat 2) d_law_385 (by decide)) ?_
  refine m_Law.n0 (x_iadd d_law_386 rfl) ?_
  refine m_Law.ldi 2 d_law_387.1 (by omega) hn ?_
  refine m_Law.callM (y_cv d_law_388 rfl q_328 (m_isRecv_of rfl hM1.1) (show m_takeI _ _ = some (_, [_, _, _], [_]) from rfl) (by simp only [m_okf, List.all_cons, List.all_nil, Bool.and_true, Bool.and_self, m_okv_i, m_okv_l, m_okv_0, m_okv_t, m_okv_out (a := 500) (by decide), m_okv_at hM1.1, hT1.ok (a := 512) (by omega), hT1.ok (a := 630) (by omega)]) rfl) (T_m_purge hM1 hm) hT1 rfl (fun w2 hT2 hM2 _ => ?_) (by decide) (by decide)
  exact m_Law.n0 (x_ict d_law_391 rfl (decide_eq_true rfl)) (k w2 hT2 hM2)
theorem w_fail (hi : i + 5 < n) (hn : n < 2147483648) (hT : RT T w) (hM : m_RM S w) (h5 : T.1 512 = some (.inl (0, hs))) (h6 : 630 < T.2.1) (h7 : T.2.1 ≤ T'.2.1) (hc : D_c_EdgeHouse_fail F 512 ((sc (i + 1))) T = some (v, T')) (hm : D_m_fail F ((sc (i + 1))) S = some (v, S')) (c1 : T'.2.1 ≤ C) (c2 : T'.2.2 ≤ U) (k : ∀ w', RT T' w' → m_RM S' w' → m_Law l n sc (816, [(4, .int (Int32.ofNat i)), (3, .ref 630), (2, .ref 583), (1, .ref 512), (0, .ref 500)], [], w') (C - T'.2.1) (U - T'.2.2)) : m_Law l n sc (452, [(4, .int (Int32.ofNat i)), (3, .ref 630), (2, .ref 583), (1, .ref 512), (0, .ref 500)], [], w) (C - T.2.1) (U - T.2.2) := by
  refine m_Law.n0 (x_aload_n d_law_452 rfl) ?_
  refine m_Law.n0 (x_aload_n d_law_453 rfl) ?_
  refine m_Law.n0 (x_iload d_law_454 rfl) ?_
  refine m_Law.n0 (x_iconst (z := Int32.ofNat 1) d_law_456 (by decide)) ?_
  refine m_Law.n0 (x_iadd d_law_457 rfl) ?_
  refine m_Law.ldi 1 d_law_458.1 (by omega) hn ?_
  have r1 : m_at w 512 = some (.inr (0, hs)) := (hT.obj h5).1
  refine m_Law.callB (T1 := T') (S := S) (C := C) (U := U) (y_cv d_law_459 rfl q_151 (m_isRecv_of rfl r1) (show m_takeI _ _ = some (_, [_, _], []) from rfl) (by simp only [m_okf, List.all_cons, List.all_nil, Bool.and_true, Bool.and_self, m_okv_i, m_okv_l, m_okv_0, m_okv_t, m_okv_out (a := 500) (by decide), m_okv_at r1, hT.ok (a := 583) (by omega), hT.ok (a := 630) (by omega)]) rfl) (T_c_EdgeHouse_fail (okr_some (by omega)) hT hc) hM c1 c2 rfl (fun w1 hT1 hM1 => ?_) (by decide) (by decide)
  refine m_Law.n0 (x_aload_n d_law_462 rfl) ?_
  refine m_Law.n0 (x_aload_n d_law_463 rfl) ?_
  refine m_Law.n0 (x_iload d_law_464 rfl) ?_
  refine m_Law.n0 (x_iconst (z := Int32.ofNat 1) d_law_466 (by decide)) ?_
  refine m_Law.n0 (x_iadd d_law_467 rfl) ?_
  refine m_Law.ldi 1 d_law_468.1 (by omega) hn ?_
  refine m_Law.callM (y_cv d_law_469 rfl q_332 (m_isRecv_of rfl hM1.1) (show m_takeI _ _ = some (_, [_, _], [_]) from rfl) (by simp only [m_okf, List.all_cons, List.all_nil, Bool.and_true, Bool.and_self, m_okv_i, m_okv_l, m_okv_0, m_okv_t, m_okv_out (a := 500) (by decide), m_okv_at hM1.1, hT1.ok (a := 512) (by omega), hT1.ok (a := 630) (by omega)]) rfl) (T_m_fail hM1 hm) hT1 rfl (fun w2 hT2 hM2 _ => ?_) (by decide) (by decide)
  exact m_Law.n0 (x_ict d_law_472 rfl (decide_eq_true rfl)) (k w2 hT2 hM2)
theorem w_back (hi : i + 5 < n) (hn : n < 2147483648) (hT : RT T w) (hM : m_RM S w) (h5 : T.1 512 = some (.inl (0, hs))) (h6 : 630 < T.2.1) (h7 : T.2.1 ≤ T'.2.1) (hc : D_c_EdgeHouse_back F 512 ((sc (i + 1))) T = some (v, T')) (hm : D_m_back F ((sc (i + 1))) S = some (v, S')) (c1 : T'.2.1 ≤ C) (c2 : T'.2.2 ≤ U) (k : ∀ w', RT T' w' → m_RM S' w' → m_Law l n sc (816, [(4, .int (Int32.ofNat i)), (3, .ref 630), (2, .ref 583), (1, .ref 512), (0, .ref 500)], [], w') (C - T'.2.1) (U - T'.2.2)) : m_Law l n sc (477, [(4, .int (Int32.ofNat i)), (3, .ref 630), (2, .ref 583), (1, .ref 512), (0, .ref 500)], [], w) (C - T.2.1) (U - T.2.2) := by
  refine m_Law.n0 (x_aload_n d_law_477 rfl) ?_
  refine m_Law.n0 (x_aload_n d_law_478 rfl) ?_
  refine m_Law.n0 (x_iload d_law_479 rfl) ?_
  refine m_Law.n0 (x_iconst (z := Int32.ofNat 1) d_law_481 (by decide)) ?_
  refine m_Law.n0 (x_iadd d_law_482 rfl) ?_
  refine m_Law.ldi 1 d_law_483.1 (by omega) hn ?_
  have r1 : m_at w 512 = some (.inr (0, hs)) := (hT.obj h5).1
  refine m_Law.callB (T1 := T') (S := S) (C := C) (U := U) (y_cv d_law_484 rfl q_155 (m_isRecv_of rfl r1) (show m_takeI _ _ = some (_, [_, _], []) from rfl) (by simp only [m_okf, List.all_cons, List.all_nil, Bool.and_true, Bool.and_self, m_okv_i, m_okv_l, m_okv_0, m_okv_t, m_okv_out (a := 500) (by decide), m_okv_at r1, hT.ok (a := 583) (by omega), hT.ok (a := 630) (by omega)]) rfl) (T_c_EdgeHouse_back (okr_some (by omega)) hT hc) hM c1 c2 rfl (fun w1 hT1 hM1 => ?_) (by decide) (by decide)
  refine m_Law.n0 (x_aload_n d_law_487 rfl) ?_
  refine m_Law.n0 (x_aload_n d_law_488 rfl) ?_
  refine m_Law.n0 (x_iload d_law_489 rfl) ?_
  refine m_Law.n0 (x_iconst (z := Int32.ofNat 1) d_law_491 (by decide)) ?_
  refine m_Law.n0 (x_iadd d_law_492 rfl) ?_
  refine m_Law.ldi 1 d_law_493.1 (by omega) hn ?_
  refine m_Law.callM (y_cv d_law_494 rfl q_334 (m_isRecv_of rfl hM1.1) (show m_takeI _ _ = some (_, [_, _], [_]) from rfl) (by simp only [m_okf, List.all_cons, List.all_nil, Bool.and_true, Bool.and_self, m_okv_i, m_okv_l, m_okv_0, m_okv_t, m_okv_out (a := 500) (by decide), m_okv_at hM1.1, hT1.ok (a := 512) (by omega), hT1.ok (a := 630) (by omega)]) rfl) (T_m_back hM1 hm) hT1 rfl (fun w2 hT2 hM2 _ => ?_) (by decide) (by decide)
  exact m_Law.n0 (x_ict d_law_497 rfl (decide_eq_true rfl)) (k w2 hT2 hM2)
theorem w_budget (hi : i + 5 < n) (hn : n < 2147483648) (hT : RT T w) (hM : m_RM S w) (h5 : T.1 512 = some (.inl (0, hs))) (h6 : 630 < T.2.1) (h7 : T.2.1 ≤ T'.2.1) (hc : D_c_EdgeHouse_budget F 512 ((sc (i + 1))) ((sc (i + 2))) T = some (v, T')) (hm : D_m_budget F ((sc (i + 1))) ((sc (i + 2))) S = some (v, S')) (c1 : T'.2.1 ≤ C) (c2 : T'.2.2 ≤ U) (k : ∀ w', RT T' w' → m_RM S' w' → m_Law l n sc (816, [(4, .int (Int32.ofNat i)), (3, .ref 630), (2, .ref 583), (1, .ref 512), (0, .ref 500)], [], w') (C - T'.2.1) (U - T'.2.2)) : m_Law l n sc (502, [(4, .int (Int32.ofNat i)), (3, .ref 630), (2, .ref 583), (1, .ref 512), (0, .ref 500)], [], w) (C - T.2.1) (U - T.2.2) := by
  refine m_Law.n0 (x_aload_n d_law_502 rfl) ?_
  refine m_Law.n0 (x_aload_n d_law_503 rfl) ?_
  refine m_Law.n0 (x_iload d_law_504 rfl) ?_
  refine m_Law.n0 (x_iconst (z := Int32.ofNat 1) d_law_506 (by decide)) ?_
  refine m_Law.n0 (x_iadd d_law_507 rfl) ?_
  refine m_Law.ldi 1 d_law_508.1 (by omega) hn ?_
  refine m_Law.n0 (x_aload_n d_law_509 rfl) ?_
  refine m_Law.n0 (x_iload d_law_510 rfl) ?_
  refine m_Law.n0 (x_iconst (z := Int32.ofNat 2) d_law_512 (by decide)) ?_
  refine m_Law.n0 (x_iadd d_law_513 rfl) ?_
  refine m_Law.ldi 2 d_law_514.1 (by omega) hn ?_
  have r1 : m_at w 512 = some (.inr (0, hs)) := (hT.obj h5).1
  refine m_Law.callB (T1 := T') (S := S) (C := C) (U := U) (y_cv d_law_515 rfl q_156 (m_isRecv_of rfl r1) (show m_takeI _ _ = some (_, [_, _, _], []) from rfl) (by simp only [m_okf, List.all_cons, List.all_nil, Bool.and_true, Bool.and_self, m_okv_i, m_okv_l, m_okv_0, m_okv_t, m_okv_out (a := 500) (by decide), m_okv_at r1, hT.ok (a := 583) (by omega), hT.ok (a := 630) (by omega)]) rfl) (T_c_EdgeHouse_budget (okr_some (by omega)) hT hc) hM c1 c2 rfl (fun w1 hT1 hM1 => ?_) (by decide) (by decide)
  refine m_Law.n0 (x_aload_n d_law_518 rfl) ?_
  refine m_Law.n0 (x_aload_n d_law_519 rfl) ?_
  refine m_Law.n0 (x_iload d_law_520 rfl) ?_
  refine m_Law.n0 (x_iconst (z := Int32.ofNat 1) d_law_522 (by decide)) ?_
  refine m_Law.n0 (x_iadd d_law_523 rfl) ?_
  refine m_Law.ldi 1 d_law_524.1 (by omega) hn ?_
  refine m_Law.n0 (x_aload_n d_law_525 rfl) ?_
  refine m_Law.n0 (x_iload d_law_526 rfl) ?_
  refine m_Law.n0 (x_iconst (z := Int32.ofNat 2) d_law_528 (by decide)) ?_
  refine m_Law.n0 (x_iadd d_law_529 rfl) ?_
  refine m_Law.ldi 2 d_law_530.1 (by omega) hn ?_
  refine m_Law.callM (y_cv d_law_531 rfl q_335 (m_isRecv_of rfl hM1.1) (show m_takeI _ _ = some (_, [_, _, _], [_]) from rfl) (by simp only [m_okf, List.all_cons, List.all_nil, Bool.and_true, Bool.and_self, m_okv_i, m_okv_l, m_okv_0, m_okv_t, m_okv_out (a := 500) (by decide), m_okv_at hM1.1, hT1.ok (a := 512) (by omega), hT1.ok (a := 630) (by omega)]) rfl) (T_m_budget hM1 hm) hT1 rfl (fun w2 hT2 hM2 _ => ?_) (by decide) (by decide)
  exact m_Law.n0 (x_ict d_law_534 rfl (decide_eq_true rfl)) (k w2 hT2 hM2)
theorem w_letter (hi : i + 5 < n) (hn : n < 2147483648) (hT : RT T w) (hM : m_RM S w) (h5 : T.1 512 = some (.inl (0, hs))) (h6 : 630 < T.2.1) (h7 : T.2.1 ≤ T'.2.1) (hc : D_c_EdgeHouse_letter F 512 ((sc (i + 1))) ((sc (i + 2))) T = some (v, T')) (hm : D_m_letter F ((sc (i + 1))) ((sc (i + 2))) S = some (v, S')) (c1 : T'.2.1 ≤ C) (c2 : T'.2.2 ≤ U) (k : ∀ w', RT T' w' → m_RM S' w' → m_Law l n sc (816, [(4, .int (Int32.ofNat i)), (3, .ref 630), (2, .ref 583), (1, .ref 512), (0, .ref 500)], [], w') (C - T'.2.1) (U - T'.2.2)) : m_Law l n sc (607, [(4, .int (Int32.ofNat i)), (3, .ref 630), (2, .ref 583), (1, .ref 512), (0, .ref 500)], [], w) (C - T.2.1) (U - T.2.2) := by
  refine m_Law.n0 (x_aload_n d_law_607 rfl) ?_
  refine m_Law.n0 (x_aload_n d_law_608 rfl) ?_
  refine m_Law.n0 (x_iload d_law_609 rfl) ?_
  refine m_Law.n0 (x_iconst (z := Int32.ofNat 1) d_law_611 (by decide)) ?_
  refine m_Law.n0 (x_iadd d_law_612 rfl) ?_
  refine m_Law.ldi 1 d_law_613.1 (by omega) hn ?_
  refine m_Law.n0 (x_aload_n d_law_614 rfl) ?_
  refine m_Law.n0 (x_iload d_law_615 rfl) ?_
  refine m_Law.n0 (x_iconst (z := Int32.ofNat 2) d_law_617 (by decide)) ?_
  refine m_Law.n0 (x_iadd d_law_618 rfl) ?_
  refine m_Law.ldi 2 d_law_619.1 (by omega) hn ?_
  have r1 : m_at w 512 = some (.inr (0, hs)) := (hT.obj h5).1
  refine m_Law.callB (T1 := T') (S := S) (C := C) (U := U) (y_cv d_law_620 rfl q_157 (m_isRecv_of rfl r1) (show m_takeI _ _ = some (_, [_, _, _], []) from rfl) (by simp only [m_okf, List.all_cons, List.all_nil, Bool.and_true, Bool.and_self, m_okv_i, m_okv_l, m_okv_0, m_okv_t, m_okv_out (a := 500) (by decide), m_okv_at r1, hT.ok (a := 583) (by omega), hT.ok (a := 630) (by omega)]) rfl) (T_c_EdgeHouse_letter (okr_some (by omega)) hT hc) hM c1 c2 rfl (fun w1 hT1 hM1 => ?_) (by decide) (by decide)
  refine m_Law.n0 (x_aload_n d_law_623 rfl) ?_
  refine m_Law.n0 (x_aload_n d_law_624 rfl) ?_
  refine m_Law.n0 (x_iload d_law_625 rfl) ?_
  refine m_Law.n0 (x_iconst (z := Int32.ofNat 1) d_law_627 (by decide)) ?_
  refine m_Law.n0 (x_iadd d_law_628 rfl) ?_
  refine m_Law.ldi 1 d_law_629.1 (by omega) hn ?_
  refine m_Law.n0 (x_aload_n d_law_630 rfl) ?_
  refine m_Law.n0 (x_iload d_law_631 rfl) ?_
  refine m_Law.n0 (x_iconst (z := Int32.ofNat 2) d_law_633 (by decide)) ?_
  refine m_Law.n0 (x_iadd d_law_634 rfl) ?_
  refine m_Law.ldi 2 d_law_635.1 (by omega) hn ?_
  refine m_Law.callM (y_cv d_law_636 rfl q_344 (m_isRecv_of rfl hM1.1) (show m_takeI _ _ = some (_, [_, _, _], [_]) from rfl) (by simp only [m_okf, List.all_cons, List.all_nil, Bool.and_true, Bool.and_self, m_okv_i, m_okv_l, m_okv_0, m_okv_t, m_okv_out (a := 500) (by decide), m_okv_at hM1.1, hT1.ok (a := 512) (by omega), hT1.ok (a := 630) (by omega)]) rfl) (T_m_letter hM1 hm) hT1 rfl (fun w2 hT2 hM2 _ => ?_) (by decide) (by decide)
  exact m_Law.n0 (x_ict d_law_639 rfl (decide_eq_true rfl)) (k w2 hT2 hM2)
theorem w_node (hi : i + 5 < n) (hn : n < 2147483648) (hT : RT T w) (hM : m_RM S w) (h5 : T.1 512 = some (.inl (0, hs))) (h6 : 630 < T.2.1) (h7 : T.2.1 ≤ T.2.1) (hc : D_c_EdgeHouse_node F 512 ((sc (i + 1))) ((sc (i + 2))) T = some v) (hm : D_m_node F ((sc (i + 1))) ((sc (i + 2))) S = some (v, S')) (c1 : T.2.1 ≤ C) (c2 : T.2.2 ≤ U) (k : ∀ w', RT T w' → m_RM S' w' → m_Law l n sc (816, [(4, .int (Int32.ofNat i)), (3, .ref 630), (2, .ref 583), (1, .ref 512), (0, .ref 500)], [], w') (C - T.2.1) (U - T.2.2)) : m_Law l n sc (644, [(4, .int (Int32.ofNat i)), (3, .ref 630), (2, .ref 583), (1, .ref 512), (0, .ref 500)], [], w) (C - T.2.1) (U - T.2.2) := by
  refine m_Law.n0 (x_aload_n d_law_644 rfl) ?_
  refine m_Law.n0 (x_aload_n d_law_645 rfl) ?_
  refine m_Law.n0 (x_iload d_law_646 rfl) ?_
  refine m_Law.n0 (x_iconst (z := Int32.ofNat 1) d_law_648 (by decide)) ?_
  refine m_Law.n0 (x_iadd d_law_649 rfl) ?_
  refine m_Law.ldi 1 d_law_650.1 (by omega) hn ?_
  refine m_Law.n0 (x_aload_n d_law_651 rfl) ?_
  refine m_Law.n0 (x_iload d_law_652 rfl) ?_
  refine m_Law.n0 (x_iconst (z := Int32.ofNat 2) d_law_654 (by decide)) ?_
  refine m_Law.n0 (x_iadd d_law_655 rfl) ?_
  refine m_Law.ldi 2 d_law_656.1 (by omega) hn ?_
  have r1 : m_at w 512 = some (.inr (0, hs)) := (hT.obj h5).1
  refine m_Law.callB (T1 := T) (S := S) (C := C) (U := U) (y_cv d_law_657 rfl q_220 (m_isRecv_of rfl r1) (show m_takeI _ _ = some (_, [_, _, _], []) from rfl) (by simp only [m_okf, List.all_cons, List.all_nil, Bool.and_true, Bool.and_self, m_okv_i, m_okv_l, m_okv_0, m_okv_t, m_okv_out (a := 500) (by decide), m_okv_at r1, hT.ok (a := 583) (by omega), hT.ok (a := 630) (by omega)]) rfl) (T_c_EdgeHouse_node (okr_some (by omega)) hT hc) hM c1 c2 rfl (fun w1 hT1 hM1 => ?_) (by decide) (by decide)
  refine m_Law.n0 (x_aload_n d_law_660 rfl) ?_
  refine m_Law.n0 (x_aload_n d_law_661 rfl) ?_
  refine m_Law.n0 (x_iload d_law_662 rfl) ?_
  refine m_Law.n0 (x_iconst (z := Int32.ofNat 1) d_law_664 (by decide)) ?_
  refine m_Law.n0 (x_iadd d_law_665 rfl) ?_
  refine m_Law.ldi 1 d_law_666.1 (by omega) hn ?_
  refine m_Law.n0 (x_aload_n d_law_667 rfl) ?_
  refine m_Law.n0 (x_iload d_law_668 rfl) ?_
  refine m_Law.n0 (x_iconst (z := Int32.ofNat 2) d_law_670 (by decide)) ?_
  refine m_Law.n0 (x_iadd d_law_671 rfl) ?_
  refine m_Law.ldi 2 d_law_672.1 (by omega) hn ?_
  refine m_Law.callM (y_cv d_law_673 rfl q_345 (m_isRecv_of rfl hM1.1) (show m_takeI _ _ = some (_, [_, _, _], [_]) from rfl) (by simp only [m_okf, List.all_cons, List.all_nil, Bool.and_true, Bool.and_self, m_okv_i, m_okv_l, m_okv_0, m_okv_t, m_okv_out (a := 500) (by decide), m_okv_at hM1.1, hT1.ok (a := 512) (by omega), hT1.ok (a := 630) (by omega)]) rfl) (T_m_node hM1 hm) hT1 rfl (fun w2 hT2 hM2 _ => ?_) (by decide) (by decide)
  exact m_Law.n0 (x_ict d_law_676 rfl (decide_eq_true rfl)) (k w2 hT2 hM2)
theorem w_entry (hi : i + 5 < n) (hn : n < 2147483648) (hT : RT T w) (hM : m_RM S w) (h5 : T.1 512 = some (.inl (0, hs))) (h6 : 630 < T.2.1) (h7 : T.2.1 ≤ T.2.1) (hc : D_c_EdgeHouse_entry F 512 ((sc (i + 1))) ((sc (i + 2))) ((sc (i + 3))) ((sc (i + 4))) ((sc (i + 5))) T = some v) (hm : D_m_entry F ((sc (i + 1))) ((sc (i + 2))) ((sc (i + 3))) ((sc (i + 4))) ((sc (i + 5))) S = some (v, S')) (c1 : T.2.1 ≤ C) (c2 : T.2.2 ≤ U) (k : ∀ w', RT T w' → m_RM S' w' → m_Law l n sc (816, [(4, .int (Int32.ofNat i)), (3, .ref 630), (2, .ref 583), (1, .ref 512), (0, .ref 500)], [], w') (C - T.2.1) (U - T.2.2)) : m_Law l n sc (681, [(4, .int (Int32.ofNat i)), (3, .ref 630), (2, .ref 583), (1, .ref 512), (0, .ref 500)], [], w) (C - T.2.1) (U - T.2.2) := by
  refine m_Law.n0 (x_aload_n d_law_681 rfl) ?_
  refine m_Law.n0 (x_aload_n d_law_682 rfl) ?_
  refine m_Law.n0 (x_iload d_law_683 rfl) ?_
  refine m_Law.n0 (x_iconst (z := Int32.ofNat 1) d_law_685 (by decide)) ?_
  refine m_Law.n0 (x_iadd d_law_686 rfl) ?_
  refine m_Law.ldi 1 d_law_687.1 (by omega) hn ?_
  refine m_Law.n0 (x_aload_n d_law_688 rfl) ?_
  refine m_Law.n0 (x_iload d_law_689 rfl) ?_
  refine m_Law.n0 (x_iconst (z := Int32.ofNat 2) d_law_691 (by decide)) ?_
  refine m_Law.n0 (x_iadd d_law_692 rfl) ?_
  refine m_Law.ldi 2 d_law_693.1 (by omega) hn ?_
  refine m_Law.n0 (x_aload_n d_law_694 rfl) ?_
  refine m_Law.n0 (x_iload d_law_695 rfl) ?_
  refine m_Law.n0 (x_iconst (z := Int32.ofNat 3) d_law_697 (by decide)) ?_
  refine m_Law.n0 (x_iadd d_law_698 rfl) ?_
  refine m_Law.ldi 3 d_law_699.1 (by omega) hn ?_
  refine m_Law.n0 (x_aload_n d_law_700 rfl) ?_
  refine m_Law.n0 (x_iload d_law_701 rfl) ?_
  refine m_Law.n0 (x_iconst (z := Int32.ofNat 4) d_law_703 (by decide)) ?_
  refine m_Law.n0 (x_iadd d_law_704 rfl) ?_
  refine m_Law.ldi 4 d_law_705.1 (by omega) hn ?_
  refine m_Law.n0 (x_aload_n d_law_706 rfl) ?_
  refine m_Law.n0 (x_iload d_law_707 rfl) ?_
  refine m_Law.n0 (x_iconst (z := Int32.ofNat 5) d_law_709 (by decide)) ?_
  refine m_Law.n0 (x_iadd d_law_710 rfl) ?_
  refine m_Law.ldi 5 d_law_711.1 (by omega) hn ?_
  have r1 : m_at w 512 = some (.inr (0, hs)) := (hT.obj h5).1
  refine m_Law.callB (T1 := T) (S := S) (C := C) (U := U) (y_cv d_law_712 rfl q_223 (m_isRecv_of rfl r1) (show m_takeI _ _ = some (_, [_, _, _, _, _, _], []) from rfl) (by simp only [m_okf, List.all_cons, List.all_nil, Bool.and_true, Bool.and_self, m_okv_i, m_okv_l, m_okv_0, m_okv_t, m_okv_out (a := 500) (by decide), m_okv_at r1, hT.ok (a := 583) (by omega), hT.ok (a := 630) (by omega)]) rfl) (T_c_EdgeHouse_entry (okr_some (by omega)) hT hc) hM c1 c2 rfl (fun w1 hT1 hM1 => ?_) (by decide) (by decide)
  refine m_Law.n0 (x_aload_n d_law_715 rfl) ?_
  refine m_Law.n0 (x_aload_n d_law_716 rfl) ?_
  refine m_Law.n0 (x_iload d_law_717 rfl) ?_
  refine m_Law.n0 (x_iconst (z := Int32.ofNat 1) d_law_719 (by decide)) ?_
  refine m_Law.n0 (x_iadd d_law_720 rfl) ?_
  refine m_Law.ldi 1 d_law_721.1 (by omega) hn ?_
  refine m_Law.n0 (x_aload_n d_law_722 rfl) ?_
  refine m_Law.n0 (x_iload d_law_723 rfl) ?_
  refine m_Law.n0 (x_iconst (z := Int32.ofNat 2) d_law_725 (by decide)) ?_
  refine m_Law.n0 (x_iadd d_law_726 rfl) ?_
  refine m_Law.ldi 2 d_law_727.1 (by omega) hn ?_
  refine m_Law.n0 (x_aload_n d_law_728 rfl) ?_
  refine m_Law.n0 (x_iload d_law_729 rfl) ?_
  refine m_Law.n0 (x_iconst (z := Int32.ofNat 3) d_law_731 (by decide)) ?_
  refine m_Law.n0 (x_iadd d_law_732 rfl) ?_
  refine m_Law.ldi 3 d_law_733.1 (by omega) hn ?_
  refine m_Law.n0 (x_aload_n d_law_734 rfl) ?_
  refine m_Law.n0 (x_iload d_law_735 rfl) ?_
  refine m_Law.n0 (x_iconst (z := Int32.ofNat 4) d_law_737 (by decide)) ?_
  refine m_Law.n0 (x_iadd d_law_738 rfl) ?_
  refine m_Law.ldi 4 d_law_739.1 (by omega) hn ?_
  refine m_Law.n0 (x_aload_n d_law_740 rfl) ?_
  refine m_Law.n0 (x_iload d_law_741 rfl) ?_
  refine m_Law.n0 (x_iconst (z := Int32.ofNat 5) d_law_743 (by decide)) ?_
  refine m_Law.n0 (x_iadd d_law_744 rfl) ?_
  refine m_Law.ldi 5 d_law_745.1 (by omega) hn ?_
  refine m_Law.callM (y_cv d_law_746 rfl q_346 (m_isRecv_of rfl hM1.1) (show m_takeI _ _ = some (_, [_, _, _, _, _, _], [_]) from rfl) (by simp only [m_okf, List.all_cons, List.all_nil, Bool.and_true, Bool.and_self, m_okv_i, m_okv_l, m_okv_0, m_okv_t, m_okv_out (a := 500) (by decide), m_okv_at hM1.1, hT1.ok (a := 512) (by omega), hT1.ok (a := 630) (by omega)]) rfl) (T_m_entry hM1 hm) hT1 rfl (fun w2 hT2 hM2 _ => ?_) (by decide) (by decide)
  exact m_Law.n0 (x_ict d_law_749 rfl (decide_eq_true rfl)) (k w2 hT2 hM2)
theorem w_message (hi : i + 5 < n) (hn : n < 2147483648) (hT : RT T w) (hM : m_RM S w) (h5 : T.1 512 = some (.inl (0, hs))) (h6 : 630 < T.2.1) (h7 : T.2.1 ≤ T.2.1) (hc : D_c_EdgeHouse_message F 512 ((sc (i + 1))) ((sc (i + 2))) T = some v) (hm : D_m_message F ((sc (i + 1))) ((sc (i + 2))) S = some (v, S')) (c1 : T.2.1 ≤ C) (c2 : T.2.2 ≤ U) (k : ∀ w', RT T w' → m_RM S' w' → m_Law l n sc (816, [(4, .int (Int32.ofNat i)), (3, .ref 630), (2, .ref 583), (1, .ref 512), (0, .ref 500)], [], w') (C - T.2.1) (U - T.2.2)) : m_Law l n sc (754, [(4, .int (Int32.ofNat i)), (3, .ref 630), (2, .ref 583), (1, .ref 512), (0, .ref 500)], [], w) (C - T.2.1) (U - T.2.2) := by
  refine m_Law.n0 (x_aload_n d_law_754 rfl) ?_
  refine m_Law.n0 (x_aload_n d_law_755 rfl) ?_
  refine m_Law.n0 (x_iload d_law_756 rfl) ?_
  refine m_Law.n0 (x_iconst (z := Int32.ofNat 1) d_law_758 (by decide)) ?_
  refine m_Law.n0 (x_iadd d_law_759 rfl) ?_
  refine m_Law.ldi 1 d_law_760.1 (by omega) hn ?_
  refine m_Law.n0 (x_aload_n d_law_761 rfl) ?_
  refine m_Law.n0 (x_iload d_law_762 rfl) ?_
  refine m_Law.n0 (x_iconst (z := Int32.ofNat 2) d_law_764 (by decide)) ?_
  refine m_Law.n0 (x_iadd d_law_765 rfl) ?_
  refine m_Law.ldi 2 d_law_766.1 (by omega) hn ?_
  have r1 : m_at w 512 = some (.inr (0, hs)) := (hT.obj h5).1
  refine m_Law.callB (T1 := T) (S := S) (C := C) (U := U) (y_cv d_law_767 rfl q_225 (m_isRecv_of rfl r1) (show m_takeI _ _ = some (_, [_, _, _], []) from rfl) (by simp only [m_okf, List.all_cons, List.all_nil, Bool.and_true, Bool.and_self, m_okv_i, m_okv_l, m_okv_0, m_okv_t, m_okv_out (a := 500) (by decide), m_okv_at r1, hT.ok (a := 583) (by omega), hT.ok (a := 630) (by omega)]) rfl) (T_c_EdgeHouse_message (okr_some (by omega)) hT hc) hM c1 c2 rfl (fun w1 hT1 hM1 => ?_) (by decide) (by decide)
  refine m_Law.n0 (x_aload_n d_law_770 rfl) ?_
  refine m_Law.n0 (x_aload_n d_law_771 rfl) ?_
  refine m_Law.n0 (x_iload d_law_772 rfl) ?_
  refine m_Law.n0 (x_iconst (z := Int32.ofNat 1) d_law_774 (by decide)) ?_
  refine m_Law.n0 (x_iadd d_law_775 rfl) ?_
  refine m_Law.ldi 1 d_law_776.1 (by omega) hn ?_
  refine m_Law.n0 (x_aload_n d_law_777 rfl) ?_
  refine m_Law.n0 (x_iload d_law_778 rfl) ?_
  refine m_Law.n0 (x_iconst (z := Int32.ofNat 2) d_law_780 (by decide)) ?_
  refine m_Law.n0 (x_iadd d_law_781 rfl) ?_
  refine m_Law.ldi 2 d_law_782.1 (by omega) hn ?_
  refine m_Law.callM (y_cv d_law_783 rfl q_347 (m_isRecv_of rfl hM1.1) (show m_takeI _ _ = some (_, [_, _, _], [_]) from rfl) (by simp only [m_okf, List.all_cons, List.all_nil, Bool.and_true, Bool.and_self, m_okv_i, m_okv_l, m_okv_0, m_okv_t, m_okv_out (a := 500) (by decide), m_okv_at hM1.1, hT1.ok (a := 512) (by omega), hT1.ok (a := 630) (by omega)]) rfl) (T_m_message hM1 hm) hT1 rfl (fun w2 hT2 hM2 _ => ?_) (by decide) (by decide)
  exact m_Law.n0 (x_ict d_law_786 rfl (decide_eq_true rfl)) (k w2 hT2 hM2)
theorem w_total (hi : i + 5 < n) (hn : n < 2147483648) (hT : RT T w) (hM : m_RM S w) (h5 : T.1 512 = some (.inl (0, hs))) (h6 : 630 < T.2.1) (h7 : T.2.1 ≤ T.2.1) (hc : D_c_EdgeHouse_total F 512 ((sc (i + 1))) T = some v) (hm : D_m_total F ((sc (i + 1))) S = some (v, S')) (c1 : T.2.1 ≤ C) (c2 : T.2.2 ≤ U) (k : ∀ w', RT T w' → m_RM S' w' → m_Law l n sc (816, [(4, .int (Int32.ofNat i)), (3, .ref 630), (2, .ref 583), (1, .ref 512), (0, .ref 500)], [], w') (C - T.2.1) (U - T.2.2)) : m_Law l n sc (791, [(4, .int (Int32.ofNat i)), (3, .ref 630), (2, .ref 583), (1, .ref 512), (0, .ref 500)], [], w) (C - T.2.1) (U - T.2.2) := by
  refine m_Law.n0 (x_aload_n d_law_791 rfl) ?_
  refine m_Law.n0 (x_aload_n d_law_792 rfl) ?_
  refine m_Law.n0 (x_iload d_law_793 rfl) ?_
  refine m_Law.n0 (x_iconst (z := Int32.ofNat 1) d_law_795 (by decide)) ?_
  refine m_Law.n0 (x_iadd d_law_796 rfl) ?_
  refine m_Law.ldi 1 d_law_797.1 (by omega) hn ?_
  have r1 : m_at w 512 = some (.inr (0, hs)) := (hT.obj h5).1
  refine m_Law.callB (T1 := T) (S := S) (C := C) (U := U) (y_cv d_law_798 rfl q_228 (m_isRecv_of rfl r1) (show m_takeI _ _ = some (_, [_, _], []) from rfl) (by simp only [m_okf, List.all_cons, List.all_nil, Bool.and_true, Bool.and_self, m_okv_i, m_okv_l, m_okv_0, m_okv_t, m_okv_out (a := 500) (by decide), m_okv_at r1, hT.ok (a := 583) (by omega), hT.ok (a := 630) (by omega)]) rfl) (T_c_EdgeHouse_total (okr_some (by omega)) hT hc) hM c1 c2 rfl (fun w1 hT1 hM1 => ?_) (by decide) (by decide)
  refine m_Law.n0 (x_aload_n d_law_801 rfl) ?_
  refine m_Law.n0 (x_aload_n d_law_802 rfl) ?_
  refine m_Law.n0 (x_iload d_law_803 rfl) ?_
  refine m_Law.n0 (x_iconst (z := Int32.ofNat 1) d_law_805 (by decide)) ?_
  refine m_Law.n0 (x_iadd d_law_806 rfl) ?_
  refine m_Law.ldi 1 d_law_807.1 (by omega) hn ?_
  refine m_Law.callM (y_cv d_law_808 rfl q_348 (m_isRecv_of rfl hM1.1) (show m_takeI _ _ = some (_, [_, _], [_]) from rfl) (by simp only [m_okf, List.all_cons, List.all_nil, Bool.and_true, Bool.and_self, m_okv_i, m_okv_l, m_okv_0, m_okv_t, m_okv_out (a := 500) (by decide), m_okv_at hM1.1, hT1.ok (a := 512) (by omega), hT1.ok (a := 630) (by omega)]) rfl) (T_m_total hM1 hm) hT1 rfl (fun w2 hT2 hM2 _ => ?_) (by decide) (by decide)
  exact m_Law.n0 (x_ict d_law_811 rfl (decide_eq_true rfl)) (k w2 hT2 hM2)
end
