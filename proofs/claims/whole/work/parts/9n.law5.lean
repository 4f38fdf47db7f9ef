theorem D_L_law_0 : decode cL_law 0 = .ok (.new 8, 3) ∧ decode cL_law 3 = .ok (.dup, 1) ∧ decode cL_law 4 = .ok (.invokespecial 59, 3) ∧ decode cL_law 7 = .ok (.astore_n 1, 1) ∧ decode cL_law 8 = .ok (.new 60, 3) ∧ decode cL_law 11 = .ok (.dup, 1) ∧ decode cL_law 12 = .ok (.invokespecial 62, 3) ∧ decode cL_law 15 = .ok (.astore_n 2, 1) ∧ decode cL_law 16 = .ok (.iconst 1, 1) ∧ decode cL_law 17 = .ok (.newarray .long, 2) ∧ decode cL_law 19 = .ok (.astore_n 3, 1) ∧ decode cL_law 20 = .ok (.iconst 0, 1) := by decide +kernel
theorem D_L_law_1 : decode cL_law 21 = .ok (.istore 4, 2) ∧ decode cL_law 23 = .ok (.iload 4, 2) ∧ decode cL_law 25 = .ok (.aload_n 0, 1) ∧ decode cL_law 26 = .ok (.arraylength, 1) ∧ decode cL_law 27 = .ok (.iconst 5, 1) ∧ decode cL_law 28 = .ok (.isub, 1) ∧ decode cL_law 29 = .ok (.if_icmp .gt 1231, 3) ∧ decode cL_law 32 = .ok (.aload_n 0, 1) ∧ decode cL_law 33 = .ok (.iload 4, 2) ∧ decode cL_law 35 = .ok (.iaload, 1) ∧ decode cL_law 36 = .ok (.bipush 31, 2) ∧ decode cL_law 38 = .ok (.iand, 1) := by decide +kernel
theorem D_L_law_2 : decode cL_law 39 = .ok (.tableswitch 1215 0 29 #[133, 196, 221, 246, 259, 284, 340, 353, 366, 379, 435, 491, 504, 517, 560, 616, 660, 673, 686, 742, 810, 823, 898, 935, 948, 961, 1029, 1042, 1134, 1202], 133) ∧ decode cL_law 172 = .ok (.aload_n 1, 1) ∧ decode cL_law 173 = .ok (.aload_n 0, 1) ∧ decode cL_law 174 = .ok (.iload 4, 2) ∧ decode cL_law 176 = .ok (.iconst 1, 1) ∧ decode cL_law 177 = .ok (.iadd, 1) ∧ decode cL_law 178 = .ok (.iaload, 1) ∧ decode cL_law 179 = .ok (.aload_n 3, 1) ∧ decode cL_law 180 = .ok (.invokestatic 63, 3) ∧ decode cL_law 183 = .ok (.istore 5, 2) ∧ decode cL_law 185 = .ok (.aload_n 2, 1) ∧ decode cL_law 186 = .ok (.aload_n 0, 1) := by decide +kernel
theorem D_L_law_3 : decode cL_law 187 = .ok (.iload 4, 2) ∧ decode cL_law 189 = .ok (.iconst 1, 1) ∧ decode cL_law 190 = .ok (.iadd, 1) ∧ decode cL_law 191 = .ok (.iaload, 1) ∧ decode cL_law 192 = .ok (.invokevirtual 68, 3) ∧ decode cL_law 195 = .ok (.istore 6, 2) ∧ decode cL_law 197 = .ok (.aload_n 2, 1) ∧ decode cL_law 198 = .ok (.invokevirtual 69, 3) ∧ decode cL_law 201 = .ok (.iload 5, 2) ∧ decode cL_law 203 = .ok (.if_icmp .eq 5, 3) ∧ decode cL_law 206 = .ok (.iconst 0, 1) ∧ decode cL_law 207 = .ok (.ireturn, 1) := by decide +kernel
theorem D_L_law_4 : decode cL_law 208 = .ok (.iload 5, 2) ∧ decode cL_law 210 = .ok (.ifCond .ne 22, 3) ∧ decode cL_law 213 = .ok (.aload_n 3, 1) ∧ decode cL_law 214 = .ok (.iconst 0, 1) ∧ decode cL_law 215 = .ok (.laload, 1) ∧ decode cL_law 216 = .ok (.iload 6, 2) ∧ decode cL_law 218 = .ok (.ifCond .eq 7, 3) ∧ decode cL_law 221 = .ok (.lconst 1, 1) ∧ decode cL_law 222 = .ok (.goto 4, 3) ∧ decode cL_law 225 = .ok (.lconst 0, 1) ∧ decode cL_law 226 = .ok (.lcmp, 1) ∧ decode cL_law 227 = .ok (.ifCond .eq 5, 3) := by decide +kernel
theorem D_L_law_5 : decode cL_law 230 = .ok (.iconst 0, 1) ∧ decode cL_law 231 = .ok (.ireturn, 1) ∧ decode cL_law 232 = .ok (.goto 1022, 3) ∧ decode cL_law 235 = .ok (.aload_n 1, 1) ∧ decode cL_law 236 = .ok (.aload_n 0, 1) ∧ decode cL_law 237 = .ok (.iload 4, 2) ∧ decode cL_law 239 = .ok (.iconst 1, 1) ∧ decode cL_law 240 = .ok (.iadd, 1) ∧ decode cL_law 241 = .ok (.iaload, 1) ∧ decode cL_law 242 = .ok (.invokevirtual 72, 3) ∧ decode cL_law 245 = .ok (.aload_n 2, 1) ∧ decode cL_law 246 = .ok (.aload_n 0, 1) := by decide +kernel
theorem D_L_law_6 : decode cL_law 247 = .ok (.iload 4, 2) ∧ decode cL_law 249 = .ok (.iconst 1, 1) ∧ decode cL_law 250 = .ok (.iadd, 1) ∧ decode cL_law 251 = .ok (.iaload, 1) ∧ decode cL_law 252 = .ok (.invokevirtual 75, 3) ∧ decode cL_law 255 = .ok (.if_icmp .eq 999, 3) ∧ decode cL_law 258 = .ok (.iconst 0, 1) ∧ decode cL_law 259 = .ok (.ireturn, 1) ∧ decode cL_law 260 = .ok (.aload_n 1, 1) ∧ decode cL_law 261 = .ok (.aload_n 0, 1) ∧ decode cL_law 262 = .ok (.iload 4, 2) ∧ decode cL_law 264 = .ok (.iconst 1, 1) := by decide +kernel
theorem D_L_law_7 : decode cL_law 265 = .ok (.iadd, 1) ∧ decode cL_law 266 = .ok (.iaload, 1) ∧ decode cL_law 267 = .ok (.invokevirtual 76, 3) ∧ decode cL_law 270 = .ok (.aload_n 2, 1) ∧ decode cL_law 271 = .ok (.aload_n 0, 1) ∧ decode cL_law 272 = .ok (.iload 4, 2) ∧ decode cL_law 274 = .ok (.iconst 1, 1) ∧ decode cL_law 275 = .ok (.iadd, 1) ∧ decode cL_law 276 = .ok (.iaload, 1) ∧ decode cL_law 277 = .ok (.invokevirtual 79, 3) ∧ decode cL_law 280 = .ok (.if_icmp .eq 974, 3) ∧ decode cL_law 283 = .ok (.iconst 0, 1) := by decide +kernel
theorem D_L_law_8 : decode cL_law 284 = .ok (.ireturn, 1) ∧ decode cL_law 285 = .ok (.aload_n 1, 1) ∧ decode cL_law 286 = .ok (.invokevirtual 80, 3) ∧ decode cL_law 289 = .ok (.aload_n 2, 1) ∧ decode cL_law 290 = .ok (.invokevirtual 83, 3) ∧ decode cL_law 293 = .ok (.if_icmp .eq 961, 3) ∧ decode cL_law 296 = .ok (.iconst 0, 1) ∧ decode cL_law 297 = .ok (.ireturn, 1) ∧ decode cL_law 298 = .ok (.aload_n 1, 1) ∧ decode cL_law 299 = .ok (.aload_n 0, 1) ∧ decode cL_law 300 = .ok (.iload 4, 2) ∧ decode cL_law 302 = .ok (.iconst 1, 1) := by decide +kernel
theorem D_L_law_9 : decode cL_law 303 = .ok (.iadd, 1) ∧ decode cL_law 304 = .ok (.iaload, 1) ∧ decode cL_law 305 = .ok (.invokevirtual 84, 3) ∧ decode cL_law 308 = .ok (.aload_n 2, 1) ∧ decode cL_law 309 = .ok (.aload_n 0, 1) ∧ decode cL_law 310 = .ok (.iload 4, 2) ∧ decode cL_law 312 = .ok (.iconst 1, 1) ∧ decode cL_law 313 = .ok (.iadd, 1) ∧ decode cL_law 314 = .ok (.iaload, 1) ∧ decode cL_law 315 = .ok (.invokevirtual 87, 3) ∧ decode cL_law 318 = .ok (.if_icmp .eq 936, 3) ∧ decode cL_law 321 = .ok (.iconst 0, 1) := by decide +kernel
theorem D_L_law_10 : decode cL_law 322 = .ok (.ireturn, 1) ∧ decode cL_law 323 = .ok (.aload_n 1, 1) ∧ decode cL_law 324 = .ok (.aload_n 0, 1) ∧ decode cL_law 325 = .ok (.iload 4, 2) ∧ decode cL_law 327 = .ok (.iconst 1, 1) ∧ decode cL_law 328 = .ok (.iadd, 1) ∧ decode cL_law 329 = .ok (.iaload, 1) ∧ decode cL_law 330 = .ok (.aload_n 3, 1) ∧ decode cL_law 331 = .ok (.invokestatic 88, 3) ∧ decode cL_law 334 = .ok (.istore 5, 2) ∧ decode cL_law 336 = .ok (.aload_n 2, 1) ∧ decode cL_law 337 = .ok (.aload_n 0, 1) := by decide +kernel
theorem D_L_law_11 : decode cL_law 338 = .ok (.iload 4, 2) ∧ decode cL_law 340 = .ok (.iconst 1, 1) ∧ decode cL_law 341 = .ok (.iadd, 1) ∧ decode cL_law 342 = .ok (.iaload, 1) ∧ decode cL_law 343 = .ok (.invokevirtual 90, 3) ∧ decode cL_law 346 = .ok (.istore 6, 2) ∧ decode cL_law 348 = .ok (.aload_n 2, 1) ∧ decode cL_law 349 = .ok (.invokevirtual 69, 3) ∧ decode cL_law 352 = .ok (.iload 5, 2) ∧ decode cL_law 354 = .ok (.if_icmp .eq 5, 3) ∧ decode cL_law 357 = .ok (.iconst 0, 1) ∧ decode cL_law 358 = .ok (.ireturn, 1) := by decide +kernel
theorem D_L_law_12 : decode cL_law 359 = .ok (.iload 5, 2) ∧ decode cL_law 361 = .ok (.ifCond .ne 15, 3) ∧ decode cL_law 364 = .ok (.aload_n 3, 1) ∧ decode cL_law 365 = .ok (.iconst 0, 1) ∧ decode cL_law 366 = .ok (.laload, 1) ∧ decode cL_law 367 = .ok (.iload 6, 2) ∧ decode cL_law 369 = .ok (.i2l, 1) ∧ decode cL_law 370 = .ok (.lcmp, 1) ∧ decode cL_law 371 = .ok (.ifCond .eq 5, 3) ∧ decode cL_law 374 = .ok (.iconst 0, 1) ∧ decode cL_law 375 = .ok (.ireturn, 1) ∧ decode cL_law 376 = .ok (.goto 878, 3) := by decide +kernel
theorem D_L_law_13 : decode cL_law 379 = .ok (.aload_n 1, 1) ∧ decode cL_law 380 = .ok (.invokevirtual 91, 3) ∧ decode cL_law 383 = .ok (.aload_n 2, 1) ∧ decode cL_law 384 = .ok (.invokevirtual 94, 3) ∧ decode cL_law 387 = .ok (.if_icmp .eq 867, 3) ∧ decode cL_law 390 = .ok (.iconst 0, 1) ∧ decode cL_law 391 = .ok (.ireturn, 1) ∧ decode cL_law 392 = .ok (.aload_n 1, 1) ∧ decode cL_law 393 = .ok (.invokevirtual 95, 3) ∧ decode cL_law 396 = .ok (.aload_n 2, 1) ∧ decode cL_law 397 = .ok (.invokevirtual 98, 3) ∧ decode cL_law 400 = .ok (.if_icmp .eq 854, 3) := by decide +kernel
theorem D_L_law_14 : decode cL_law 403 = .ok (.iconst 0, 1) ∧ decode cL_law 404 = .ok (.ireturn, 1) ∧ decode cL_law 405 = .ok (.aload_n 1, 1) ∧ decode cL_law 406 = .ok (.invokevirtual 99, 3) ∧ decode cL_law 409 = .ok (.aload_n 2, 1) ∧ decode cL_law 410 = .ok (.invokevirtual 102, 3) ∧ decode cL_law 413 = .ok (.if_icmp .eq 841, 3) ∧ decode cL_law 416 = .ok (.iconst 0, 1) ∧ decode cL_law 417 = .ok (.ireturn, 1) ∧ decode cL_law 418 = .ok (.aload_n 1, 1) ∧ decode cL_law 419 = .ok (.aload_n 0, 1) ∧ decode cL_law 420 = .ok (.iload 4, 2) := by decide +kernel
theorem D_L_law_15 : decode cL_law 422 = .ok (.iconst 1, 1) ∧ decode cL_law 423 = .ok (.iadd, 1) ∧ decode cL_law 424 = .ok (.iaload, 1) ∧ decode cL_law 425 = .ok (.aload_n 3, 1) ∧ decode cL_law 426 = .ok (.invokestatic 103, 3) ∧ decode cL_law 429 = .ok (.istore 5, 2) ∧ decode cL_law 431 = .ok (.aload_n 2, 1) ∧ decode cL_law 432 = .ok (.aload_n 0, 1) ∧ decode cL_law 433 = .ok (.iload 4, 2) ∧ decode cL_law 435 = .ok (.iconst 1, 1) ∧ decode cL_law 436 = .ok (.iadd, 1) ∧ decode cL_law 437 = .ok (.iaload, 1) := by decide +kernel
theorem D_L_law_16 : decode cL_law 438 = .ok (.invokevirtual 105, 3) ∧ decode cL_law 441 = .ok (.istore 6, 2) ∧ decode cL_law 443 = .ok (.aload_n 2, 1) ∧ decode cL_law 444 = .ok (.invokevirtual 69, 3) ∧ decode cL_law 447 = .ok (.iload 5, 2) ∧ decode cL_law 449 = .ok (.if_icmp .eq 5, 3) ∧ decode cL_law 452 = .ok (.iconst 0, 1) ∧ decode cL_law 453 = .ok (.ireturn, 1) ∧ decode cL_law 454 = .ok (.iload 5, 2) ∧ decode cL_law 456 = .ok (.ifCond .ne 15, 3) ∧ decode cL_law 459 = .ok (.aload_n 3, 1) ∧ decode cL_law 460 = .ok (.iconst 0, 1) := by decide +kernel
theorem D_L_law_17 : decode cL_law 461 = .ok (.laload, 1) ∧ decode cL_law 462 = .ok (.iload 6, 2) ∧ decode cL_law 464 = .ok (.i2l, 1) ∧ decode cL_law 465 = .ok (.lcmp, 1) ∧ decode cL_law 466 = .ok (.ifCond .eq 5, 3) ∧ decode cL_law 469 = .ok (.iconst 0, 1) ∧ decode cL_law 470 = .ok (.ireturn, 1) ∧ decode cL_law 471 = .ok (.goto 783, 3) ∧ decode cL_law 474 = .ok (.aload_n 1, 1) ∧ decode cL_law 475 = .ok (.aload_n 0, 1) ∧ decode cL_law 476 = .ok (.iload 4, 2) ∧ decode cL_law 478 = .ok (.iconst 1, 1) := by decide +kernel
theorem D_L_law_18 : decode cL_law 479 = .ok (.iadd, 1) ∧ decode cL_law 480 = .ok (.iaload, 1) ∧ decode cL_law 481 = .ok (.aload_n 3, 1) ∧ decode cL_law 482 = .ok (.invokestatic 106, 3) ∧ decode cL_law 485 = .ok (.istore 5, 2) ∧ decode cL_law 487 = .ok (.aload_n 2, 1) ∧ decode cL_law 488 = .ok (.aload_n 0, 1) ∧ decode cL_law 489 = .ok (.iload 4, 2) ∧ decode cL_law 491 = .ok (.iconst 1, 1) ∧ decode cL_law 492 = .ok (.iadd, 1) ∧ decode cL_law 493 = .ok (.iaload, 1) ∧ decode cL_law 494 = .ok (.invokevirtual 108, 3) := by decide +kernel
theorem D_L_law_19 : decode cL_law 497 = .ok (.istore 6, 2) ∧ decode cL_law 499 = .ok (.aload_n 2, 1) ∧ decode cL_law 500 = .ok (.invokevirtual 69, 3) ∧ decode cL_law 503 = .ok (.iload 5, 2) ∧ decode cL_law 505 = .ok (.if_icmp .eq 5, 3) ∧ decode cL_law 508 = .ok (.iconst 0, 1) ∧ decode cL_law 509 = .ok (.ireturn, 1) ∧ decode cL_law 510 = .ok (.iload 5, 2) ∧ decode cL_law 512 = .ok (.ifCond .ne 15, 3) ∧ decode cL_law 515 = .ok (.aload_n 3, 1) ∧ decode cL_law 516 = .ok (.iconst 0, 1) ∧ decode cL_law 517 = .ok (.laload, 1) := by decide +kernel
theorem D_L_law_20 : decode cL_law 518 = .ok (.iload 6, 2) ∧ decode cL_law 520 = .ok (.i2l, 1) ∧ decode cL_law 521 = .ok (.lcmp, 1) ∧ decode cL_law 522 = .ok (.ifCond .eq 5, 3) ∧ decode cL_law 525 = .ok (.iconst 0, 1) ∧ decode cL_law 526 = .ok (.ireturn, 1) ∧ decode cL_law 527 = .ok (.goto 727, 3) ∧ decode cL_law 530 = .ok (.aload_n 1, 1) ∧ decode cL_law 531 = .ok (.invokevirtual 109, 3) ∧ decode cL_law 534 = .ok (.aload_n 2, 1) ∧ decode cL_law 535 = .ok (.invokevirtual 112, 3) ∧ decode cL_law 538 = .ok (.if_icmp .eq 716, 3) := by decide +kernel
theorem D_L_law_21 : decode cL_law 541 = .ok (.iconst 0, 1) ∧ decode cL_law 542 = .ok (.ireturn, 1) ∧ decode cL_law 543 = .ok (.aload_n 1, 1) ∧ decode cL_law 544 = .ok (.invokevirtual 113, 3) ∧ decode cL_law 547 = .ok (.aload_n 2, 1) ∧ decode cL_law 548 = .ok (.invokevirtual 116, 3) ∧ decode cL_law 551 = .ok (.if_icmp .eq 703, 3) ∧ decode cL_law 554 = .ok (.iconst 0, 1) ∧ decode cL_law 555 = .ok (.ireturn, 1) ∧ decode cL_law 556 = .ok (.aload_n 1, 1) ∧ decode cL_law 557 = .ok (.invokevirtual 117, 3) ∧ decode cL_law 560 = .ok (.f2d, 1) := by decide +kernel
theorem D_L_law_22 : decode cL_law 561 = .ok (.dstore 5, 2) ∧ decode cL_law 563 = .ok (.aload_n 2, 1) ∧ decode cL_law 564 = .ok (.invokevirtual 121, 3) ∧ decode cL_law 567 = .ok (.f2d, 1) ∧ decode cL_law 568 = .ok (.dstore 7, 2) ∧ decode cL_law 570 = .ok (.dload 5, 2) ∧ decode cL_law 572 = .ok (.dload 7, 2) ∧ decode cL_law 574 = .ok (.dcmp .l, 1) ∧ decode cL_law 575 = .ok (.ifCond .eq 21, 3) ∧ decode cL_law 578 = .ok (.dload 5, 2) ∧ decode cL_law 580 = .ok (.dload 5, 2) ∧ decode cL_law 582 = .ok (.dcmp .l, 1) := by decide +kernel
theorem D_L_law_23 : decode cL_law 583 = .ok (.ifCond .eq 11, 3) ∧ decode cL_law 586 = .ok (.dload 7, 2) ∧ decode cL_law 588 = .ok (.dload 7, 2) ∧ decode cL_law 590 = .ok (.dcmp .l, 1) ∧ decode cL_law 591 = .ok (.ifCond .ne 5, 3) ∧ decode cL_law 594 = .ok (.iconst 0, 1) ∧ decode cL_law 595 = .ok (.ireturn, 1) ∧ decode cL_law 596 = .ok (.goto 658, 3) ∧ decode cL_law 599 = .ok (.aload_n 1, 1) ∧ decode cL_law 600 = .ok (.aload_n 0, 1) ∧ decode cL_law 601 = .ok (.iload 4, 2) ∧ decode cL_law 603 = .ok (.iconst 1, 1) := by decide +kernel
theorem D_L_law_24 : decode cL_law 604 = .ok (.iadd, 1) ∧ decode cL_law 605 = .ok (.iaload, 1) ∧ decode cL_law 606 = .ok (.aload_n 3, 1) ∧ decode cL_law 607 = .ok (.invokestatic 122, 3) ∧ decode cL_law 610 = .ok (.istore 5, 2) ∧ decode cL_law 612 = .ok (.aload_n 2, 1) ∧ decode cL_law 613 = .ok (.aload_n 0, 1) ∧ decode cL_law 614 = .ok (.iload 4, 2) ∧ decode cL_law 616 = .ok (.iconst 1, 1) ∧ decode cL_law 617 = .ok (.iadd, 1) ∧ decode cL_law 618 = .ok (.iaload, 1) ∧ decode cL_law 619 = .ok (.invokevirtual 124, 3) := by decide +kernel
theorem D_L_law_25 : decode cL_law 622 = .ok (.istore 6, 2) ∧ decode cL_law 624 = .ok (.aload_n 2, 1) ∧ decode cL_law 625 = .ok (.invokevirtual 69, 3) ∧ decode cL_law 628 = .ok (.iload 5, 2) ∧ decode cL_law 630 = .ok (.if_icmp .eq 5, 3) ∧ decode cL_law 633 = .ok (.iconst 0, 1) ∧ decode cL_law 634 = .ok (.ireturn, 1) ∧ decode cL_law 635 = .ok (.iload 5, 2) ∧ decode cL_law 637 = .ok (.ifCond .ne 15, 3) ∧ decode cL_law 640 = .ok (.aload_n 3, 1) ∧ decode cL_law 641 = .ok (.iconst 0, 1) ∧ decode cL_law 642 = .ok (.laload, 1) := by decide +kernel
theorem D_L_law_26 : decode cL_law 643 = .ok (.iload 6, 2) ∧ decode cL_law 645 = .ok (.i2l, 1) ∧ decode cL_law 646 = .ok (.lcmp, 1) ∧ decode cL_law 647 = .ok (.ifCond .eq 5, 3) ∧ decode cL_law 650 = .ok (.iconst 0, 1) ∧ decode cL_law 651 = .ok (.ireturn, 1) ∧ decode cL_law 652 = .ok (.goto 602, 3) ∧ decode cL_law 655 = .ok (.aload_n 1, 1) ∧ decode cL_law 656 = .ok (.aload_n 3, 1) ∧ decode cL_law 657 = .ok (.invokestatic 125, 3) ∧ decode cL_law 660 = .ok (.istore 5, 2) ∧ decode cL_law 662 = .ok (.aload_n 2, 1) := by decide +kernel
theorem D_L_law_27 : decode cL_law 663 = .ok (.invokevirtual 128, 3) ∧ decode cL_law 666 = .ok (.istore 6, 2) ∧ decode cL_law 668 = .ok (.aload_n 2, 1) ∧ decode cL_law 669 = .ok (.invokevirtual 69, 3) ∧ decode cL_law 672 = .ok (.iload 5, 2) ∧ decode cL_law 674 = .ok (.if_icmp .eq 5, 3) ∧ decode cL_law 677 = .ok (.iconst 0, 1) ∧ decode cL_law 678 = .ok (.ireturn, 1) ∧ decode cL_law 679 = .ok (.iload 5, 2) ∧ decode cL_law 681 = .ok (.ifCond .ne 15, 3) ∧ decode cL_law 684 = .ok (.aload_n 3, 1) ∧ decode cL_law 685 = .ok (.iconst 0, 1) := by decide +kernel
theorem D_L_law_28 : decode cL_law 686 = .ok (.laload, 1) ∧ decode cL_law 687 = .ok (.iload 6, 2) ∧ decode cL_law 689 = .ok (.i2l, 1) ∧ decode cL_law 690 = .ok (.lcmp, 1) ∧ decode cL_law 691 = .ok (.ifCond .eq 5, 3) ∧ decode cL_law 694 = .ok (.iconst 0, 1) ∧ decode cL_law 695 = .ok (.ireturn, 1) ∧ decode cL_law 696 = .ok (.goto 558, 3) ∧ decode cL_law 699 = .ok (.aload_n 1, 1) ∧ decode cL_law 700 = .ok (.invokevirtual 129, 3) ∧ decode cL_law 703 = .ok (.aload_n 2, 1) ∧ decode cL_law 704 = .ok (.invokevirtual 132, 3) := by decide +kernel
theorem D_L_law_29 : decode cL_law 707 = .ok (.if_icmp .eq 547, 3) ∧ decode cL_law 710 = .ok (.iconst 0, 1) ∧ decode cL_law 711 = .ok (.ireturn, 1) ∧ decode cL_law 712 = .ok (.aload_n 1, 1) ∧ decode cL_law 713 = .ok (.invokevirtual 133, 3) ∧ decode cL_law 716 = .ok (.aload_n 2, 1) ∧ decode cL_law 717 = .ok (.invokevirtual 136, 3) ∧ decode cL_law 720 = .ok (.if_icmp .eq 534, 3) ∧ decode cL_law 723 = .ok (.iconst 0, 1) ∧ decode cL_law 724 = .ok (.ireturn, 1) ∧ decode cL_law 725 = .ok (.aload_n 1, 1) ∧ decode cL_law 726 = .ok (.aload_n 0, 1) := by decide +kernel
theorem D_L_law_30 : decode cL_law 727 = .ok (.iload 4, 2) ∧ decode cL_law 729 = .ok (.iconst 1, 1) ∧ decode cL_law 730 = .ok (.iadd, 1) ∧ decode cL_law 731 = .ok (.iaload, 1) ∧ decode cL_law 732 = .ok (.aload_n 3, 1) ∧ decode cL_law 733 = .ok (.invokestatic 137, 3) ∧ decode cL_law 736 = .ok (.istore 5, 2) ∧ decode cL_law 738 = .ok (.aload_n 2, 1) ∧ decode cL_law 739 = .ok (.aload_n 0, 1) ∧ decode cL_law 740 = .ok (.iload 4, 2) ∧ decode cL_law 742 = .ok (.iconst 1, 1) ∧ decode cL_law 743 = .ok (.iadd, 1) := by decide +kernel
theorem D_L_law_31 : decode cL_law 744 = .ok (.iaload, 1) ∧ decode cL_law 745 = .ok (.invokevirtual 139, 3) ∧ decode cL_law 748 = .ok (.istore 6, 2) ∧ decode cL_law 750 = .ok (.aload_n 2, 1) ∧ decode cL_law 751 = .ok (.invokevirtual 69, 3) ∧ decode cL_law 754 = .ok (.iload 5, 2) ∧ decode cL_law 756 = .ok (.if_icmp .eq 5, 3) ∧ decode cL_law 759 = .ok (.iconst 0, 1) ∧ decode cL_law 760 = .ok (.ireturn, 1) ∧ decode cL_law 761 = .ok (.iload 5, 2) ∧ decode cL_law 763 = .ok (.ifCond .ne 15, 3) ∧ decode cL_law 766 = .ok (.aload_n 3, 1) := by decide +kernel
theorem D_L_law_32 : decode cL_law 767 = .ok (.iconst 0, 1) ∧ decode cL_law 768 = .ok (.laload, 1) ∧ decode cL_law 769 = .ok (.iload 6, 2) ∧ decode cL_law 771 = .ok (.i2l, 1) ∧ decode cL_law 772 = .ok (.lcmp, 1) ∧ decode cL_law 773 = .ok (.ifCond .eq 5, 3) ∧ decode cL_law 776 = .ok (.iconst 0, 1) ∧ decode cL_law 777 = .ok (.ireturn, 1) ∧ decode cL_law 778 = .ok (.goto 476, 3) ∧ decode cL_law 781 = .ok (.aload_n 1, 1) ∧ decode cL_law 782 = .ok (.aload_n 0, 1) ∧ decode cL_law 783 = .ok (.iload 4, 2) := by decide +kernel
theorem D_L_law_33 : decode cL_law 785 = .ok (.iconst 1, 1) ∧ decode cL_law 786 = .ok (.iadd, 1) ∧ decode cL_law 787 = .ok (.iaload, 1) ∧ decode cL_law 788 = .ok (.aload_n 0, 1) ∧ decode cL_law 789 = .ok (.iload 4, 2) ∧ decode cL_law 791 = .ok (.iconst 2, 1) ∧ decode cL_law 792 = .ok (.iadd, 1) ∧ decode cL_law 793 = .ok (.iaload, 1) ∧ decode cL_law 794 = .ok (.aload_n 3, 1) ∧ decode cL_law 795 = .ok (.invokestatic 140, 3) ∧ decode cL_law 798 = .ok (.istore 5, 2) ∧ decode cL_law 800 = .ok (.aload_n 2, 1) := by decide +kernel
theorem D_L_law_34 : decode cL_law 801 = .ok (.aload_n 0, 1) ∧ decode cL_law 802 = .ok (.iload 4, 2) ∧ decode cL_law 804 = .ok (.iconst 1, 1) ∧ decode cL_law 805 = .ok (.iadd, 1) ∧ decode cL_law 806 = .ok (.iaload, 1) ∧ decode cL_law 807 = .ok (.aload_n 0, 1) ∧ decode cL_law 808 = .ok (.iload 4, 2) ∧ decode cL_law 810 = .ok (.iconst 2, 1) ∧ decode cL_law 811 = .ok (.iadd, 1) ∧ decode cL_law 812 = .ok (.iaload, 1) ∧ decode cL_law 813 = .ok (.invokevirtual 143, 3) ∧ decode cL_law 816 = .ok (.istore 6, 2) := by decide +kernel
theorem D_L_law_35 : decode cL_law 818 = .ok (.aload_n 2, 1) ∧ decode cL_law 819 = .ok (.invokevirtual 69, 3) ∧ decode cL_law 822 = .ok (.iload 5, 2) ∧ decode cL_law 824 = .ok (.if_icmp .eq 5, 3) ∧ decode cL_law 827 = .ok (.iconst 0, 1) ∧ decode cL_law 828 = .ok (.ireturn, 1) ∧ decode cL_law 829 = .ok (.iload 5, 2) ∧ decode cL_law 831 = .ok (.ifCond .ne 15, 3) ∧ decode cL_law 834 = .ok (.aload_n 3, 1) ∧ decode cL_law 835 = .ok (.iconst 0, 1) ∧ decode cL_law 836 = .ok (.laload, 1) ∧ decode cL_law 837 = .ok (.iload 6, 2) := by decide +kernel
theorem D_L_law_36 : decode cL_law 839 = .ok (.i2l, 1) ∧ decode cL_law 840 = .ok (.lcmp, 1) ∧ decode cL_law 841 = .ok (.ifCond .eq 5, 3) ∧ decode cL_law 844 = .ok (.iconst 0, 1) ∧ decode cL_law 845 = .ok (.ireturn, 1) ∧ decode cL_law 846 = .ok (.goto 408, 3) ∧ decode cL_law 849 = .ok (.aload_n 1, 1) ∧ decode cL_law 850 = .ok (.invokevirtual 144, 3) ∧ decode cL_law 853 = .ok (.aload_n 2, 1) ∧ decode cL_law 854 = .ok (.invokevirtual 147, 3) ∧ decode cL_law 857 = .ok (.if_icmp .eq 397, 3) ∧ decode cL_law 860 = .ok (.iconst 0, 1) := by decide +kernel
theorem D_L_law_37 : decode cL_law 861 = .ok (.ireturn, 1) ∧ decode cL_law 862 = .ok (.aload_n 1, 1) ∧ decode cL_law 863 = .ok (.aload_n 0, 1) ∧ decode cL_law 864 = .ok (.iload 4, 2) ∧ decode cL_law 866 = .ok (.iconst 1, 1) ∧ decode cL_law 867 = .ok (.iadd, 1) ∧ decode cL_law 868 = .ok (.iaload, 1) ∧ decode cL_law 869 = .ok (.aload_n 0, 1) ∧ decode cL_law 870 = .ok (.iload 4, 2) ∧ decode cL_law 872 = .ok (.iconst 2, 1) ∧ decode cL_law 873 = .ok (.iadd, 1) ∧ decode cL_law 874 = .ok (.iaload, 1) := by decide +kernel
theorem D_L_law_38 : decode cL_law 875 = .ok (.aload_n 3, 1) ∧ decode cL_law 876 = .ok (.invokestatic 148, 3) ∧ decode cL_law 879 = .ok (.istore 5, 2) ∧ decode cL_law 881 = .ok (.aload_n 2, 1) ∧ decode cL_law 882 = .ok (.aload_n 0, 1) ∧ decode cL_law 883 = .ok (.iload 4, 2) ∧ decode cL_law 885 = .ok (.iconst 1, 1) ∧ decode cL_law 886 = .ok (.iadd, 1) ∧ decode cL_law 887 = .ok (.iaload, 1) ∧ decode cL_law 888 = .ok (.aload_n 0, 1) ∧ decode cL_law 889 = .ok (.iload 4, 2) ∧ decode cL_law 891 = .ok (.iconst 2, 1) := by decide +kernel
theorem D_L_law_39 : decode cL_law 892 = .ok (.iadd, 1) ∧ decode cL_law 893 = .ok (.iaload, 1) ∧ decode cL_law 894 = .ok (.invokevirtual 150, 3) ∧ decode cL_law 897 = .ok (.istore 6, 2) ∧ decode cL_law 899 = .ok (.aload_n 2, 1) ∧ decode cL_law 900 = .ok (.invokevirtual 69, 3) ∧ decode cL_law 903 = .ok (.iload 5, 2) ∧ decode cL_law 905 = .ok (.if_icmp .eq 5, 3) ∧ decode cL_law 908 = .ok (.iconst 0, 1) ∧ decode cL_law 909 = .ok (.ireturn, 1) ∧ decode cL_law 910 = .ok (.iload 5, 2) ∧ decode cL_law 912 = .ok (.ifCond .ne 22, 3) := by decide +kernel
theorem D_L_law_40 : decode cL_law 915 = .ok (.aload_n 3, 1) ∧ decode cL_law 916 = .ok (.iconst 0, 1) ∧ decode cL_law 917 = .ok (.laload, 1) ∧ decode cL_law 918 = .ok (.iload 6, 2) ∧ decode cL_law 920 = .ok (.ifCond .eq 7, 3) ∧ decode cL_law 923 = .ok (.lconst 1, 1) ∧ decode cL_law 924 = .ok (.goto 4, 3) ∧ decode cL_law 927 = .ok (.lconst 0, 1) ∧ decode cL_law 928 = .ok (.lcmp, 1) ∧ decode cL_law 929 = .ok (.ifCond .eq 5, 3) ∧ decode cL_law 932 = .ok (.iconst 0, 1) ∧ decode cL_law 933 = .ok (.ireturn, 1) := by decide +kernel
theorem D_L_law_41 : decode cL_law 934 = .ok (.goto 320, 3) ∧ decode cL_law 937 = .ok (.aload_n 1, 1) ∧ decode cL_law 938 = .ok (.aload_n 0, 1) ∧ decode cL_law 939 = .ok (.iload 4, 2) ∧ decode cL_law 941 = .ok (.iconst 1, 1) ∧ decode cL_law 942 = .ok (.iadd, 1) ∧ decode cL_law 943 = .ok (.iaload, 1) ∧ decode cL_law 944 = .ok (.aload_n 0, 1) ∧ decode cL_law 945 = .ok (.iload 4, 2) ∧ decode cL_law 947 = .ok (.iconst 2, 1) ∧ decode cL_law 948 = .ok (.iadd, 1) ∧ decode cL_law 949 = .ok (.iaload, 1) := by decide +kernel
theorem D_L_law_42 : decode cL_law 950 = .ok (.invokevirtual 151, 3) ∧ decode cL_law 953 = .ok (.aload_n 2, 1) ∧ decode cL_law 954 = .ok (.aload_n 0, 1) ∧ decode cL_law 955 = .ok (.iload 4, 2) ∧ decode cL_law 957 = .ok (.iconst 1, 1) ∧ decode cL_law 958 = .ok (.iadd, 1) ∧ decode cL_law 959 = .ok (.iaload, 1) ∧ decode cL_law 960 = .ok (.aload_n 0, 1) ∧ decode cL_law 961 = .ok (.iload 4, 2) ∧ decode cL_law 963 = .ok (.iconst 2, 1) ∧ decode cL_law 964 = .ok (.iadd, 1) ∧ decode cL_law 965 = .ok (.iaload, 1) := by decide +kernel
theorem D_L_law_43 : decode cL_law 966 = .ok (.invokevirtual 154, 3) ∧ decode cL_law 969 = .ok (.if_icmp .eq 285, 3) ∧ decode cL_law 972 = .ok (.iconst 0, 1) ∧ decode cL_law 973 = .ok (.ireturn, 1) ∧ decode cL_law 974 = .ok (.aload_n 1, 1) ∧ decode cL_law 975 = .ok (.invokevirtual 155, 3) ∧ decode cL_law 978 = .ok (.aload_n 2, 1) ∧ decode cL_law 979 = .ok (.invokevirtual 158, 3) ∧ decode cL_law 982 = .ok (.if_icmp .eq 272, 3) ∧ decode cL_law 985 = .ok (.iconst 0, 1) ∧ decode cL_law 986 = .ok (.ireturn, 1) ∧ decode cL_law 987 = .ok (.aload_n 1, 1) := by decide +kernel
theorem D_L_law_44 : decode cL_law 988 = .ok (.invokevirtual 159, 3) ∧ decode cL_law 991 = .ok (.aload_n 2, 1) ∧ decode cL_law 992 = .ok (.invokevirtual 162, 3) ∧ decode cL_law 995 = .ok (.if_icmp .eq 259, 3) ∧ decode cL_law 998 = .ok (.iconst 0, 1) ∧ decode cL_law 999 = .ok (.ireturn, 1) ∧ decode cL_law 1000 = .ok (.aload_n 1, 1) ∧ decode cL_law 1001 = .ok (.aload_n 0, 1) ∧ decode cL_law 1002 = .ok (.iload 4, 2) ∧ decode cL_law 1004 = .ok (.iconst 1, 1) ∧ decode cL_law 1005 = .ok (.iadd, 1) ∧ decode cL_law 1006 = .ok (.iaload, 1) := by decide +kernel
theorem D_L_law_45 : decode cL_law 1007 = .ok (.aload_n 0, 1) ∧ decode cL_law 1008 = .ok (.iload 4, 2) ∧ decode cL_law 1010 = .ok (.iconst 2, 1) ∧ decode cL_law 1011 = .ok (.iadd, 1) ∧ decode cL_law 1012 = .ok (.iaload, 1) ∧ decode cL_law 1013 = .ok (.aload_n 3, 1) ∧ decode cL_law 1014 = .ok (.invokestatic 163, 3) ∧ decode cL_law 1017 = .ok (.istore 5, 2) ∧ decode cL_law 1019 = .ok (.aload_n 2, 1) ∧ decode cL_law 1020 = .ok (.aload_n 0, 1) ∧ decode cL_law 1021 = .ok (.iload 4, 2) ∧ decode cL_law 1023 = .ok (.iconst 1, 1) := by decide +kernel
theorem D_L_law_46 : decode cL_law 1024 = .ok (.iadd, 1) ∧ decode cL_law 1025 = .ok (.iaload, 1) ∧ decode cL_law 1026 = .ok (.aload_n 0, 1) ∧ decode cL_law 1027 = .ok (.iload 4, 2) ∧ decode cL_law 1029 = .ok (.iconst 2, 1) ∧ decode cL_law 1030 = .ok (.iadd, 1) ∧ decode cL_law 1031 = .ok (.iaload, 1) ∧ decode cL_law 1032 = .ok (.invokevirtual 165, 3) ∧ decode cL_law 1035 = .ok (.istore 6, 2) ∧ decode cL_law 1037 = .ok (.aload_n 2, 1) ∧ decode cL_law 1038 = .ok (.invokevirtual 69, 3) ∧ decode cL_law 1041 = .ok (.iload 5, 2) := by decide +kernel
theorem D_L_law_47 : decode cL_law 1043 = .ok (.if_icmp .eq 5, 3) ∧ decode cL_law 1046 = .ok (.iconst 0, 1) ∧ decode cL_law 1047 = .ok (.ireturn, 1) ∧ decode cL_law 1048 = .ok (.iload 5, 2) ∧ decode cL_law 1050 = .ok (.ifCond .ne 15, 3) ∧ decode cL_law 1053 = .ok (.aload_n 3, 1) ∧ decode cL_law 1054 = .ok (.iconst 0, 1) ∧ decode cL_law 1055 = .ok (.laload, 1) ∧ decode cL_law 1056 = .ok (.iload 6, 2) ∧ decode cL_law 1058 = .ok (.i2l, 1) ∧ decode cL_law 1059 = .ok (.lcmp, 1) ∧ decode cL_law 1060 = .ok (.ifCond .eq 5, 3) := by decide +kernel
theorem D_L_law_48 : decode cL_law 1063 = .ok (.iconst 0, 1) ∧ decode cL_law 1064 = .ok (.ireturn, 1) ∧ decode cL_law 1065 = .ok (.goto 189, 3) ∧ decode cL_law 1068 = .ok (.aload_n 1, 1) ∧ decode cL_law 1069 = .ok (.invokevirtual 166, 3) ∧ decode cL_law 1072 = .ok (.aload_n 2, 1) ∧ decode cL_law 1073 = .ok (.invokevirtual 169, 3) ∧ decode cL_law 1076 = .ok (.if_icmp .eq 178, 3) ∧ decode cL_law 1079 = .ok (.iconst 0, 1) ∧ decode cL_law 1080 = .ok (.ireturn, 1) ∧ decode cL_law 1081 = .ok (.aload_n 1, 1) ∧ decode cL_law 1082 = .ok (.aload_n 0, 1) := by decide +kernel
theorem D_L_law_49 : decode cL_law 1083 = .ok (.iload 4, 2) ∧ decode cL_law 1085 = .ok (.iconst 1, 1) ∧ decode cL_law 1086 = .ok (.iadd, 1) ∧ decode cL_law 1087 = .ok (.iaload, 1) ∧ decode cL_law 1088 = .ok (.aload_n 0, 1) ∧ decode cL_law 1089 = .ok (.iload 4, 2) ∧ decode cL_law 1091 = .ok (.iconst 2, 1) ∧ decode cL_law 1092 = .ok (.iadd, 1) ∧ decode cL_law 1093 = .ok (.iaload, 1) ∧ decode cL_law 1094 = .ok (.aload_n 0, 1) ∧ decode cL_law 1095 = .ok (.iload 4, 2) ∧ decode cL_law 1097 = .ok (.iconst 3, 1) := by decide +kernel
theorem D_L_law_50 : decode cL_law 1098 = .ok (.iadd, 1) ∧ decode cL_law 1099 = .ok (.iaload, 1) ∧ decode cL_law 1100 = .ok (.aload_n 0, 1) ∧ decode cL_law 1101 = .ok (.iload 4, 2) ∧ decode cL_law 1103 = .ok (.iconst 4, 1) ∧ decode cL_law 1104 = .ok (.iadd, 1) ∧ decode cL_law 1105 = .ok (.iaload, 1) ∧ decode cL_law 1106 = .ok (.aload_n 3, 1) ∧ decode cL_law 1107 = .ok (.invokestatic 170, 3) ∧ decode cL_law 1110 = .ok (.istore 5, 2) ∧ decode cL_law 1112 = .ok (.aload_n 2, 1) ∧ decode cL_law 1113 = .ok (.aload_n 0, 1) := by decide +kernel
theorem D_L_law_51 : decode cL_law 1114 = .ok (.iload 4, 2) ∧ decode cL_law 1116 = .ok (.iconst 1, 1) ∧ decode cL_law 1117 = .ok (.iadd, 1) ∧ decode cL_law 1118 = .ok (.iaload, 1) ∧ decode cL_law 1119 = .ok (.aload_n 0, 1) ∧ decode cL_law 1120 = .ok (.iload 4, 2) ∧ decode cL_law 1122 = .ok (.iconst 2, 1) ∧ decode cL_law 1123 = .ok (.iadd, 1) ∧ decode cL_law 1124 = .ok (.iaload, 1) ∧ decode cL_law 1125 = .ok (.aload_n 0, 1) ∧ decode cL_law 1126 = .ok (.iload 4, 2) ∧ decode cL_law 1128 = .ok (.iconst 3, 1) := by decide +kernel
theorem D_L_law_52 : decode cL_law 1129 = .ok (.iadd, 1) ∧ decode cL_law 1130 = .ok (.iaload, 1) ∧ decode cL_law 1131 = .ok (.aload_n 0, 1) ∧ decode cL_law 1132 = .ok (.iload 4, 2) ∧ decode cL_law 1134 = .ok (.iconst 4, 1) ∧ decode cL_law 1135 = .ok (.iadd, 1) ∧ decode cL_law 1136 = .ok (.iaload, 1) ∧ decode cL_law 1137 = .ok (.invokevirtual 173, 3) ∧ decode cL_law 1140 = .ok (.istore 6, 2) ∧ decode cL_law 1142 = .ok (.aload_n 2, 1) ∧ decode cL_law 1143 = .ok (.invokevirtual 69, 3) ∧ decode cL_law 1146 = .ok (.iload 5, 2) := by decide +kernel
theorem D_L_law_53 : decode cL_law 1148 = .ok (.if_icmp .eq 5, 3) ∧ decode cL_law 1151 = .ok (.iconst 0, 1) ∧ decode cL_law 1152 = .ok (.ireturn, 1) ∧ decode cL_law 1153 = .ok (.iload 5, 2) ∧ decode cL_law 1155 = .ok (.ifCond .ne 15, 3) ∧ decode cL_law 1158 = .ok (.aload_n 3, 1) ∧ decode cL_law 1159 = .ok (.iconst 0, 1) ∧ decode cL_law 1160 = .ok (.laload, 1) ∧ decode cL_law 1161 = .ok (.iload 6, 2) ∧ decode cL_law 1163 = .ok (.i2l, 1) ∧ decode cL_law 1164 = .ok (.lcmp, 1) ∧ decode cL_law 1165 = .ok (.ifCond .eq 5, 3) := by decide +kernel
theorem D_L_law_54 : decode cL_law 1168 = .ok (.iconst 0, 1) ∧ decode cL_law 1169 = .ok (.ireturn, 1) ∧ decode cL_law 1170 = .ok (.goto 84, 3) ∧ decode cL_law 1173 = .ok (.aload_n 1, 1) ∧ decode cL_law 1174 = .ok (.aload_n 0, 1) ∧ decode cL_law 1175 = .ok (.iload 4, 2) ∧ decode cL_law 1177 = .ok (.iconst 1, 1) ∧ decode cL_law 1178 = .ok (.iadd, 1) ∧ decode cL_law 1179 = .ok (.iaload, 1) ∧ decode cL_law 1180 = .ok (.aload_n 0, 1) ∧ decode cL_law 1181 = .ok (.iload 4, 2) ∧ decode cL_law 1183 = .ok (.iconst 2, 1) := by decide +kernel
theorem D_L_law_55 : decode cL_law 1184 = .ok (.iadd, 1) ∧ decode cL_law 1185 = .ok (.iaload, 1) ∧ decode cL_law 1186 = .ok (.aload_n 3, 1) ∧ decode cL_law 1187 = .ok (.invokestatic 174, 3) ∧ decode cL_law 1190 = .ok (.istore 5, 2) ∧ decode cL_law 1192 = .ok (.aload_n 2, 1) ∧ decode cL_law 1193 = .ok (.aload_n 0, 1) ∧ decode cL_law 1194 = .ok (.iload 4, 2) ∧ decode cL_law 1196 = .ok (.iconst 1, 1) ∧ decode cL_law 1197 = .ok (.iadd, 1) ∧ decode cL_law 1198 = .ok (.iaload, 1) ∧ decode cL_law 1199 = .ok (.aload_n 0, 1) := by decide +kernel
theorem D_L_law_56 : decode cL_law 1200 = .ok (.iload 4, 2) ∧ decode cL_law 1202 = .ok (.iconst 2, 1) ∧ decode cL_law 1203 = .ok (.iadd, 1) ∧ decode cL_law 1204 = .ok (.iaload, 1) ∧ decode cL_law 1205 = .ok (.invokevirtual 176, 3) ∧ decode cL_law 1208 = .ok (.istore 6, 2) ∧ decode cL_law 1210 = .ok (.aload_n 2, 1) ∧ decode cL_law 1211 = .ok (.invokevirtual 69, 3) ∧ decode cL_law 1214 = .ok (.iload 5, 2) ∧ decode cL_law 1216 = .ok (.if_icmp .eq 5, 3) ∧ decode cL_law 1219 = .ok (.iconst 0, 1) ∧ decode cL_law 1220 = .ok (.ireturn, 1) := by decide +kernel
theorem D_L_law_57 : decode cL_law 1221 = .ok (.iload 5, 2) ∧ decode cL_law 1223 = .ok (.ifCond .ne 15, 3) ∧ decode cL_law 1226 = .ok (.aload_n 3, 1) ∧ decode cL_law 1227 = .ok (.iconst 0, 1) ∧ decode cL_law 1228 = .ok (.laload, 1) ∧ decode cL_law 1229 = .ok (.iload 6, 2) ∧ decode cL_law 1231 = .ok (.i2l, 1) ∧ decode cL_law 1232 = .ok (.lcmp, 1) ∧ decode cL_law 1233 = .ok (.ifCond .eq 5, 3) ∧ decode cL_law 1236 = .ok (.iconst 0, 1) ∧ decode cL_law 1237 = .ok (.ireturn, 1) ∧ decode cL_law 1238 = .ok (.goto 16, 3) := by decide +kernel
theorem D_L_law_58 : decode cL_law 1241 = .ok (.aload_n 1, 1) ∧ decode cL_law 1242 = .ok (.invokevirtual 177, 3) ∧ decode cL_law 1245 = .ok (.aload_n 2, 1) ∧ decode cL_law 1246 = .ok (.invokevirtual 180, 3) ∧ decode cL_law 1249 = .ok (.if_icmp .eq 5, 3) ∧ decode cL_law 1252 = .ok (.iconst 0, 1) ∧ decode cL_law 1253 = .ok (.ireturn, 1) ∧ decode cL_law 1254 = .ok (.iinc 4 5, 3) ∧ decode cL_law 1257 = .ok (.goto (-1234), 3) ∧ decode cL_law 1260 = .ok (.iconst 1, 1) ∧ decode cL_law 1261 = .ok (.ireturn, 1) := by decide +kernel
theorem hd_L_add : yL_add.cls ≠ "java/lang/invoke/MethodHandle" ∧ yL_add.cls ≠ "java/lang/invoke/VarHandle" ∧ (parseMethodDescriptor yL_add.desc).map (fun d => d.parameters.length) = some 3 := by decide +kernel
theorem hd_X9_add : yX9_add.cls ≠ "java/lang/invoke/MethodHandle" ∧ yX9_add.cls ≠ "java/lang/invoke/VarHandle" ∧ (parseMethodDescriptor yX9_add.desc).map (fun d => d.parameters.length) = some 1 := by decide +kernel
theorem hd_X9_thrown : yX9_thrown.cls ≠ "java/lang/invoke/MethodHandle" ∧ yX9_thrown.cls ≠ "java/lang/invoke/VarHandle" ∧ (parseMethodDescriptor yX9_thrown.desc).map (fun d => d.parameters.length) = some 0 := by decide +kernel
set_option maxHeartbeats 4000000 in
set_option maxRecDepth 100000 in
theorem lc_addR {p : Program} {l : Launch} {ee : Env} {s : State} {mi : MethodId} {args : Array Value} {below : List Frame} {meth : Method} {cd : Code} {G : xG} {Z : State → Prop} {rt : Option FieldType} {k0 n0 bs L i x mm o : Nat} {xs : Nat → Int32} {K N : Nat → Nat} {I : Nat → Nat → Int32} {Q : Nat → Nat → Option Nat} {J : Nat → Nat → Int64} {ow : xO} {n : Nat} {c : Nat → Nat} {al : Nat → Bool} {sp tu pt : Nat → Nat} {m : Nat} {pc : Nat → Nat} {pa : Nat → Bool} {ps : Nat → Nat} {r d u g w : Int32} {ar : Nat → Nat} (C : XC p s mi args meth cd code 9 RL rt G) (hX : gX G s s.heap) (hlt : l.stackTraces = false) (hXs : va_X bs L xs s s.heap) (hbl : bs < s.heap.size) (hbA : ¬ gA G bs) (hi : i + 5 ≤ L) (hL : L ≤ 2560) (hk0 : k0 + 100 ≤ room_1.cells) (hn0 : n0 + 2000 ≤ room_1.slots) (hS : SY ow (K, N, I, Q, J) x n c al sp tu pt m pc pa ps r d u g w) (hM : KM ow (K, N, I, Q, J) mm ar n c al sp tu pt m pc pa ps r d u g w) (hO : K o = 24 ∧ N o = 1 ∧ ow o = 10) (hB : BNm n al tu m pa) (hy : xs (i + 1) < -999 ∨ nI 999 < xs (i + 1)) (kk : ∀ (ow1 : xO) (S1 : xS), INV ow1 S1 x mm o → XW p l ee room_1 s mi args below meth cd G Z (k0 + 100) (n0 + 2000) S1 1254 [some (.ref bs), some (.ref x), some (.ref mm), some (.ref o), some (.int (nI i)), none, none, none, none] []) : XW p l ee room_1 s mi args below meth cd G Z k0 n0 (K, N, I, Q, J) 172 [some (.ref bs), some (.ref x), some (.ref mm), some (.ref o), some (.int (nI i)), none, none, none, none] [] := by
  obtain ⟨hKB, hPB, hUP, hPI, hn2, hcb, hm2, hsb, hx⟩ := hS.kb
  have hx : K x = 8 := hx
  have hmm : K mm = 9 := hM.1.1
  have ht30 : ∀ i, i < n → tu i < 2 ^ 30 := fun i hi => Nat.lt_trans (hsb i hi).2 (by decide)
  have hs30 : ∀ i, i < n → sp i < 2 ^ 30 := fun i hi => Nat.lt_trans (hsb i hi).1 (by decide)
  have hp30 : ∀ i, i < m → ps i < 2 ^ 30 := fun i hi => Nat.lt_trans (hPB i hi).2.2 (by decide)
  refine x_aload_n C D_L_law_2.2.1 rfl rfl (by first | exact Or.inr ⟨_, rfl⟩ | exact va_rf_or _ | exact Or.inl rfl) ?_
  refine x_aload_n C D_L_law_2.2.2.1 rfl rfl (by first | exact Or.inr ⟨_, rfl⟩ | exact va_rf_or _ | exact Or.inl rfl) ?_
  refine x_iload C D_L_law_2.2.2.2.1 rfl ?_
  refine x_iconst C (v := nI 1) D_L_law_2.2.2.2.2.1 (by decide +kernel) ?_
  refine x_iadd C D_L_law_2.2.2.2.2.2.1 ?_
  first
  | refine x_eqi _ (nI_add _ _) ?_
  | skip
  refine x_sld C hXs hbl hbA _ rfl (by omega) hL D_L_law_2.2.2.2.2.2.2.1 ?_
  refine x_aload_n C D_L_law_2.2.2.2.2.2.2.2.1 rfl rfl (by first | exact Or.inr ⟨_, rfl⟩ | exact va_rf_or _ | exact Or.inl rfl) ?_
  refine x_callW C hX (y := yL_add) (c_L_addR l G ow x o n m c al sp tu pt pc ps pa r d u g w (xs (i + 1)) hlt hS ⟨hO.1, hO.2.1⟩ hy) k_498 k_499 k_59 kw_add hd_L_add ⟨(Nat.le_of_ble_eq_true rfl), (Nat.le_of_ble_eq_true rfl)⟩ rfl (by first | exact Nat.le_of_ble_eq_true rfl | simp [x_crf, Value.category]) rfl rfl D_L_law_2.2.2.2.2.2.2.2.2.1 ⟨Nat.le_trans (Nat.add_le_add_left (Nat.le_of_ble_eq_true rfl : _ ≤ 20) _) (by omega), Nat.le_trans (Nat.add_le_add_left (Nat.le_of_ble_eq_true rfl : _ ≤ 400) _) (by omega)⟩ (fun r_180 S_180 h_180 => ?_)
  refine x_widen (k' := k0 + 20) (n' := n0 + 400) (Nat.add_le_add_left (Nat.le_of_ble_eq_true rfl) _) (Nat.add_le_add_left (Nat.le_of_ble_eq_true rfl) _) ?_
  obtain ⟨rfl, ow1, hF1, hS1⟩ := h_180
  obtain ⟨K1, N1, I1, Q1, J1⟩ := S_180
  have hM1 := hM.agree hF1
  have hO1 := hF1.o hO
  have hm1 : K1 mm = 9 := hM1.1.1
  have m1d : I1 mm 1 = d := hM1.2.2.2.2.1
  have m1r : I1 mm 2 = r := hM1.2.2.2.2.2.1
  have m1u : I1 mm 3 = u := hM1.2.2.2.2.2.2.1
  have m1g : I1 mm 4 = g := hM1.2.2.2.2.2.2.2.1
  have m1w : I1 mm 11 = w := hM1.2.2.2.2.2.2.2.2
  refine x_istore C (lv' := [_, _, _, _, _, _, _, _, _]) D_L_law_2.2.2.2.2.2.2.2.2.2.1 (Nat.le_of_ble_eq_true rfl) (by first | rfl | exact x_ok_q rfl) rfl ?_
  refine x_aload_n C D_L_law_2.2.2.2.2.2.2.2.2.2.2.1 rfl rfl (by first | exact Or.inr ⟨_, rfl⟩ | exact va_rf_or _ | exact Or.inl rfl) ?_
  refine x_aload_n C D_L_law_2.2.2.2.2.2.2.2.2.2.2.2 rfl rfl (by first | exact Or.inr ⟨_, rfl⟩ | exact va_rf_or _ | exact Or.inl rfl) ?_
  refine x_iload C D_L_law_3.1 rfl ?_
  refine x_iconst C (v := nI 1) D_L_law_3.2.1 (by decide +kernel) ?_
  refine x_iadd C D_L_law_3.2.2.1 ?_
  first
  | refine x_eqi _ (nI_add _ _) ?_
  | skip
  refine x_sld C hXs hbl hbA _ rfl (by omega) hL D_L_law_3.2.2.2.1 ?_
  refine x_callVz C (y := yX9_add) (c_X9_addR l G mm n ar c sp tu pt al (xs (i + 1)) hM1.1 hM1.2.1 hKB hy (KV_none hM1.2.1 (no_range hcb hy))) (ci := 8) hm1 (by decide) rfl rfl k_966 k_967 k_968 k_67 k_969 hd_X9_add ⟨(Nat.le_of_ble_eq_true rfl), (Nat.le_of_ble_eq_true rfl)⟩ rfl (by first | exact Nat.le_of_ble_eq_true rfl | simp [x_crf, Value.category]) rfl rfl D_L_law_3.2.2.2.2.1 ⟨Nat.le_trans (Nat.add_le_add_left (Nat.le_of_ble_eq_true rfl : _ ≤ 20) _) (by omega), Nat.le_trans (Nat.add_le_add_left (Nat.le_of_ble_eq_true rfl : _ ≤ 400) _) (by omega)⟩ (fun r_192 S_192 h_192 => ?_)
  refine x_widen (k' := k0 + 20 + 20) (n' := n0 + 400 + 400) (Nat.add_le_add_left (Nat.le_of_ble_eq_true rfl) _) (Nat.add_le_add_left (Nat.le_of_ble_eq_true rfl) _) ?_
  obtain ⟨rfl, rfl⟩ := h_192
  refine x_istore C (lv' := [_, _, _, _, _, _, _, _, _]) D_L_law_3.2.2.2.2.2.1 (Nat.le_of_ble_eq_true rfl) (by first | rfl | exact x_ok_q rfl) rfl ?_
  refine x_aload_n C D_L_law_3.2.2.2.2.2.2.1 rfl rfl (by first | exact Or.inr ⟨_, rfl⟩ | exact va_rf_or _ | exact Or.inl rfl) ?_
  refine x_callVi C (y := yX9_thrown) (c_X9_thrown l G mm hm1) (ci := 8) hm1 (by decide) rfl rfl k_962 k_963 k_964 k_67 k_965 hd_X9_thrown ⟨(Nat.le_of_ble_eq_true rfl), (Nat.le_of_ble_eq_true rfl)⟩ rfl (by first | exact Nat.le_of_ble_eq_true rfl | simp [x_crf, Value.category]) rfl rfl D_L_law_3.2.2.2.2.2.2.2.1 ⟨Nat.le_trans (Nat.add_le_add_left (Nat.le_of_ble_eq_true rfl : _ ≤ 20) _) (by omega), Nat.le_trans (Nat.add_le_add_left (Nat.le_of_ble_eq_true rfl : _ ≤ 400) _) (by omega)⟩ (fun r_198 S_198 h_198 => ?_)
  refine x_widen (k' := k0 + 20 + 20 + 20) (n' := n0 + 400 + 400 + 400) (Nat.add_le_add_left (Nat.le_of_ble_eq_true rfl) _) (Nat.add_le_add_left (Nat.le_of_ble_eq_true rfl) _) ?_
  obtain ⟨rfl, rfl⟩ := h_198
  refine x_eqi _ (show _ = nI 1 from x_u2_s _ _ _ _) ?_
  refine x_iload C D_L_law_3.2.2.2.2.2.2.2.2.1 rfl ?_
  refine x_icmp_eq C 208 D_L_law_3.2.2.2.2.2.2.2.2.2.1 (by decide) (fun c_203 => ?_) (fun c_203 => ?_)
  · skip
    refine x_iload C D_L_law_4.1 rfl ?_
    refine x_if_ne C 232 D_L_law_4.2.1 (by decide) (fun c_210 => ?_) (fun c_210 => ?_)
    · skip
      refine x_goto C 1254 D_L_law_5.2.2.1 (by decide) ?_
      exact x_drop9 (x_widen (by omega) (by omega) (kk _ _ (INV.q hS1 hM1 hO1 hB _)))
    · skip
      exact absurd c_210 (by decide)
      --end
  · skip
    exact absurd rfl c_203
    --end
set_option maxHeartbeats 4000000 in
set_option maxRecDepth 100000 in
theorem lc_addT {p : Program} {l : Launch} {ee : Env} {s : State} {mi : MethodId} {args : Array Value} {below : List Frame} {meth : Method} {cd : Code} {G : xG} {Z : State → Prop} {rt : Option FieldType} {k0 n0 bs L i x mm o : Nat} {xs : Nat → Int32} {K N : Nat → Nat} {I : Nat → Nat → Int32} {Q : Nat → Nat → Option Nat} {J : Nat → Nat → Int64} {ow : xO} {n : Nat} {c : Nat → Nat} {al : Nat → Bool} {sp tu pt : Nat → Nat} {m : Nat} {pc : Nat → Nat} {pa : Nat → Bool} {ps : Nat → Nat} {r d u g w : Int32} {ar : Nat → Nat} (C : XC p s mi args meth cd code 9 RL rt G) (hX : gX G s s.heap) (hlt : l.stackTraces = false) (hXs : va_X bs L xs s s.heap) (hbl : bs < s.heap.size) (hbA : ¬ gA G bs) (hi : i + 5 ≤ L) (hL : L ≤ 2560) (hk0 : k0 + 100 ≤ room_1.cells) (hn0 : n0 + 2000 ≤ room_1.slots) (hS : SY ow (K, N, I, Q, J) x n c al sp tu pt m pc pa ps r d u g w) (hM : KM ow (K, N, I, Q, J) mm ar n c al sp tu pt m pc pa ps r d u g w) (hO : K o = 24 ∧ N o = 1 ∧ ow o = 10) (hB : BNm n al tu m pa) (k : Nat) (hk : k < n) (y1 : xs (i + 1) = cv1 (c k)) (hal : al k = true) (kk : ∀ (ow1 : xO) (S1 : xS), INV ow1 S1 x mm o → XW p l ee room_1 s mi args below meth cd G Z (k0 + 100) (n0 + 2000) S1 1254 [some (.ref bs), some (.ref x), some (.ref mm), some (.ref o), some (.int (nI i)), none, none, none, none] []) : XW p l ee room_1 s mi args below meth cd G Z k0 n0 (K, N, I, Q, J) 172 [some (.ref bs), some (.ref x), some (.ref mm), some (.ref o), some (.int (nI i)), none, none, none, none] [] := by
  obtain ⟨hKB, hPB, hUP, hPI, hn2, hcb, hm2, hsb, hx⟩ := hS.kb
  have hx : K x = 8 := hx
  have hmm : K mm = 9 := hM.1.1
  have ht30 : ∀ i, i < n → tu i < 2 ^ 30 := fun i hi => Nat.lt_trans (hsb i hi).2 (by decide)
  have hs30 : ∀ i, i < n → sp i < 2 ^ 30 := fun i hi => Nat.lt_trans (hsb i hi).1 (by decide)
  have hp30 : ∀ i, i < m → ps i < 2 ^ 30 := fun i hi => Nat.lt_trans (hPB i hi).2.2 (by decide)
  refine x_aload_n C D_L_law_2.2.1 rfl rfl (by first | exact Or.inr ⟨_, rfl⟩ | exact va_rf_or _ | exact Or.inl rfl) ?_
  refine x_aload_n C D_L_law_2.2.2.1 rfl rfl (by first | exact Or.inr ⟨_, rfl⟩ | exact va_rf_or _ | exact Or.inl rfl) ?_
  refine x_iload C D_L_law_2.2.2.2.1 rfl ?_
  refine x_iconst C (v := nI 1) D_L_law_2.2.2.2.2.1 (by decide +kernel) ?_
  refine x_iadd C D_L_law_2.2.2.2.2.2.1 ?_
  first
  | refine x_eqi _ (nI_add _ _) ?_
  | skip
  refine x_sld C hXs hbl hbA _ rfl (by omega) hL D_L_law_2.2.2.2.2.2.2.1 ?_
  refine x_eqi _ y1 ?_
  refine x_aload_n C D_L_law_2.2.2.2.2.2.2.2.1 rfl rfl (by first | exact Or.inr ⟨_, rfl⟩ | exact va_rf_or _ | exact Or.inl rfl) ?_
  refine x_callW C hX (y := yL_add) (c_L_addT l G ow x o n m c al sp tu pt pc ps pa r d u g w k hlt hS ⟨hO.1, hO.2.1⟩ hk hal) k_498 k_499 k_59 kw_add hd_L_add ⟨(Nat.le_of_ble_eq_true rfl), (Nat.le_of_ble_eq_true rfl)⟩ rfl (by first | exact Nat.le_of_ble_eq_true rfl | simp [x_crf, Value.category]) rfl rfl D_L_law_2.2.2.2.2.2.2.2.2.1 ⟨Nat.le_trans (Nat.add_le_add_left (Nat.le_of_ble_eq_true rfl : _ ≤ 20) _) (by omega), Nat.le_trans (Nat.add_le_add_left (Nat.le_of_ble_eq_true rfl : _ ≤ 400) _) (by omega)⟩ (fun r_180 S_180 h_180 => ?_)
  refine x_widen (k' := k0 + 20) (n' := n0 + 400) (Nat.add_le_add_left (Nat.le_of_ble_eq_true rfl) _) (Nat.add_le_add_left (Nat.le_of_ble_eq_true rfl) _) ?_
  obtain ⟨rfl, S0, J2, rfl, eJ2, ow1, hF1, hS1⟩ := h_180
  obtain ⟨K1, N1, I1, Q1, J1⟩ := S0
  have hM1 := (hM.agree hF1).J (J1 := J2)
  have hS1 := hS1.J (J1 := J2)
  have hO1 := hF1.o hO
  have hm1 : K1 mm = 9 := hM1.1.1
  have ko1 : K1 o = 24 := hO1.1
  have no1 : N1 o = 1 := hO1.2.1
  have m1d : I1 mm 1 = d := hM1.2.2.2.2.1
  have m1r : I1 mm 2 = r := hM1.2.2.2.2.2.1
  have m1u : I1 mm 3 = u := hM1.2.2.2.2.2.2.1
  have m1g : I1 mm 4 = g := hM1.2.2.2.2.2.2.2.1
  have m1w : I1 mm 11 = w := hM1.2.2.2.2.2.2.2.2
  refine x_istore C (lv' := [_, _, _, _, _, _, _, _, _]) D_L_law_2.2.2.2.2.2.2.2.2.2.1 (Nat.le_of_ble_eq_true rfl) (by first | rfl | exact x_ok_q rfl) rfl ?_
  refine x_aload_n C D_L_law_2.2.2.2.2.2.2.2.2.2.2.1 rfl rfl (by first | exact Or.inr ⟨_, rfl⟩ | exact va_rf_or _ | exact Or.inl rfl) ?_
  refine x_aload_n C D_L_law_2.2.2.2.2.2.2.2.2.2.2.2 rfl rfl (by first | exact Or.inr ⟨_, rfl⟩ | exact va_rf_or _ | exact Or.inl rfl) ?_
  refine x_iload C D_L_law_3.1 rfl ?_
  refine x_iconst C (v := nI 1) D_L_law_3.2.1 (by decide +kernel) ?_
  refine x_iadd C D_L_law_3.2.2.1 ?_
  first
  | refine x_eqi _ (nI_add _ _) ?_
  | skip
  refine x_sld C hXs hbl hbA _ rfl (by omega) hL D_L_law_3.2.2.2.1 ?_
  refine x_eqi _ y1 ?_
  refine x_callVz C (y := yX9_add) (c_X9_addT l G mm n ar c sp tu pt al (c k) k hM1.1 hM1.2.1 hKB (hcb k hk) (KV_some hM1.2.1 hUP hcb hk) hal) (ci := 8) hm1 (by decide) rfl rfl k_966 k_967 k_968 k_67 k_969 hd_X9_add ⟨(Nat.le_of_ble_eq_true rfl), (Nat.le_of_ble_eq_true rfl)⟩ rfl (by first | exact Nat.le_of_ble_eq_true rfl | simp [x_crf, Value.category]) rfl rfl D_L_law_3.2.2.2.2.1 ⟨Nat.le_trans (Nat.add_le_add_left (Nat.le_of_ble_eq_true rfl : _ ≤ 20) _) (by omega), Nat.le_trans (Nat.add_le_add_left (Nat.le_of_ble_eq_true rfl : _ ≤ 400) _) (by omega)⟩ (fun r_192 S_192 h_192 => ?_)
  refine x_widen (k' := k0 + 20 + 20) (n' := n0 + 400 + 400) (Nat.add_le_add_left (Nat.le_of_ble_eq_true rfl) _) (Nat.add_le_add_left (Nat.le_of_ble_eq_true rfl) _) ?_
  obtain ⟨rfl, rfl⟩ := h_192
  refine x_istore C (lv' := [_, _, _, _, _, _, _, _, _]) D_L_law_3.2.2.2.2.2.1 (Nat.le_of_ble_eq_true rfl) (by first | rfl | exact x_ok_q rfl) rfl ?_
  refine x_aload_n C D_L_law_3.2.2.2.2.2.2.1 rfl rfl (by first | exact Or.inr ⟨_, rfl⟩ | exact va_rf_or _ | exact Or.inl rfl) ?_
  refine x_callVi C (y := yX9_thrown) (c_X9_thrown l G mm hm1) (ci := 8) hm1 (by decide) rfl rfl k_962 k_963 k_964 k_67 k_965 hd_X9_thrown ⟨(Nat.le_of_ble_eq_true rfl), (Nat.le_of_ble_eq_true rfl)⟩ rfl (by first | exact Nat.le_of_ble_eq_true rfl | simp [x_crf, Value.category]) rfl rfl D_L_law_3.2.2.2.2.2.2.2.1 ⟨Nat.le_trans (Nat.add_le_add_left (Nat.le_of_ble_eq_true rfl : _ ≤ 20) _) (by omega), Nat.le_trans (Nat.add_le_add_left (Nat.le_of_ble_eq_true rfl : _ ≤ 400) _) (by omega)⟩ (fun r_198 S_198 h_198 => ?_)
  refine x_widen (k' := k0 + 20 + 20 + 20) (n' := n0 + 400 + 400 + 400) (Nat.add_le_add_left (Nat.le_of_ble_eq_true rfl) _) (Nat.add_le_add_left (Nat.le_of_ble_eq_true rfl) _) ?_
  obtain ⟨rfl, rfl⟩ := h_198
  refine x_eqi _ (show _ = nI 0 from x_u2_s _ _ _ _) ?_
  refine x_iload C D_L_law_3.2.2.2.2.2.2.2.2.1 rfl ?_
  refine x_icmp_eq C 208 D_L_law_3.2.2.2.2.2.2.2.2.2.1 (by decide) (fun c_203 => ?_) (fun c_203 => ?_)
  · skip
    refine x_iload C D_L_law_4.1 rfl ?_
    refine x_if_ne C 232 D_L_law_4.2.1 (by decide) (fun c_210 => ?_) (fun c_210 => ?_)
    · skip
      exact absurd rfl c_210
      --end
    · skip
      refine x_aload_n C D_L_law_4.2.2.1 rfl rfl (by first | exact Or.inr ⟨_, rfl⟩ | exact va_rf_or _ | exact Or.inl rfl) ?_
      refine x_iconst C (v := nI 0) D_L_law_4.2.2.2.1 (by decide +kernel) ?_
      refine x_lald C 0 ko1 rfl (by omega) (by omega) D_L_law_4.2.2.2.2.1 ?_
      refine x_eql _ (show J2 o 0 = _ by rw [eJ2, x_u2_s]) ?_
      refine x_iload C D_L_law_4.2.2.2.2.2.1 rfl ?_
      refine x_if_eq C 225 D_L_law_4.2.2.2.2.2.2.1 (by decide) (fun c_218 => ?_) (fun c_218 => ?_)
      · skip
        refine x_lconst C (v := 0) D_L_law_4.2.2.2.2.2.2.2.2.2.1 (by decide +kernel) ?_
        refine x_lcmp C D_L_law_4.2.2.2.2.2.2.2.2.2.2.1 ?_
        refine x_eqi _ (lg_self _) ?_
        refine x_if_eq C 232 D_L_law_4.2.2.2.2.2.2.2.2.2.2.2 (by decide) (fun c_227 => ?_) (fun c_227 => ?_)
        · skip
          refine x_goto C 1254 D_L_law_5.2.2.1 (by decide) ?_
          exact x_drop9 (x_widen (by omega) (by omega) (kk _ _ (INV.q hS1 hM1 hO1 hB _)))
        · skip
          exact absurd rfl c_227
          --end
      · skip
        exact absurd rfl c_218
        --end
  · skip
    exact absurd rfl c_203
    --end
set_option maxHeartbeats 4000000 in
set_option maxRecDepth 100000 in
theorem lc_addG {p : Program} {l : Launch} {ee : Env} {s : State} {mi : MethodId} {args : Array Value} {below : List Frame} {meth : Method} {cd : Code} {G : xG} {Z : State → Prop} {rt : Option FieldType} {k0 n0 bs L i x mm o : Nat} {xs : Nat → Int32} {K N : Nat → Nat} {I : Nat → Nat → Int32} {Q : Nat → Nat → Option Nat} {J : Nat → Nat → Int64} {ow : xO} {n : Nat} {c : Nat → Nat} {al : Nat → Bool} {sp tu pt : Nat → Nat} {m : Nat} {pc : Nat → Nat} {pa : Nat → Bool} {ps : Nat → Nat} {r d u g w : Int32} {ar : Nat → Nat} (C : XC p s mi args meth cd code 9 RL rt G) (hX : gX G s s.heap) (hlt : l.stackTraces = false) (hXs : va_X bs L xs s s.heap) (hbl : bs < s.heap.size) (hbA : ¬ gA G bs) (hi : i + 5 ≤ L) (hL : L ≤ 2560) (hk0 : k0 + 100 ≤ room_1.cells) (hn0 : n0 + 2000 ≤ room_1.slots) (hS : SY ow (K, N, I, Q, J) x n c al sp tu pt m pc pa ps r d u g w) (hM : KM ow (K, N, I, Q, J) mm ar n c al sp tu pt m pc pa ps r d u g w) (hO : K o = 24 ∧ N o = 1 ∧ ow o = 10) (hB : BNm n al tu m pa) (k : Nat) (hk : k < n) (y1 : xs (i + 1) = cv1 (c k)) (hal : al k = false) (hlv : cn al n = 100) (kk : ∀ (ow1 : xO) (S1 : xS), INV ow1 S1 x mm o → XW p l ee room_1 s mi args below meth cd G Z (k0 + 100) (n0 + 2000) S1 1254 [some (.ref bs), some (.ref x), some (.ref mm), some (.ref o), some (.int (nI i)), none, none, none, none] []) : XW p l ee room_1 s mi args below meth cd G Z k0 n0 (K, N, I, Q, J) 172 [some (.ref bs), some (.ref x), some (.ref mm), some (.ref o), some (.int (nI i)), none, none, none, none] [] := by
  obtain ⟨hKB, hPB, hUP, hPI, hn2, hcb, hm2, hsb, hx⟩ := hS.kb
  have hx : K x = 8 := hx
  have hmm : K mm = 9 := hM.1.1
  have ht30 : ∀ i, i < n → tu i < 2 ^ 30 := fun i hi => Nat.lt_trans (hsb i hi).2 (by decide)
  have hs30 : ∀ i, i < n → sp i < 2 ^ 30 := fun i hi => Nat.lt_trans (hsb i hi).1 (by decide)
  have hp30 : ∀ i, i < m → ps i < 2 ^ 30 := fun i hi => Nat.lt_trans (hPB i hi).2.2 (by decide)
  refine x_aload_n C D_L_law_2.2.1 rfl rfl (by first | exact Or.inr ⟨_, rfl⟩ | exact va_rf_or _ | exact Or.inl rfl) ?_
  refine x_aload_n C D_L_law_2.2.2.1 rfl rfl (by first | exact Or.inr ⟨_, rfl⟩ | exact va_rf_or _ | exact Or.inl rfl) ?_
  refine x_iload C D_L_law_2.2.2.2.1 rfl ?_
  refine x_iconst C (v := nI 1) D_L_law_2.2.2.2.2.1 (by decide +kernel) ?_
  refine x_iadd C D_L_law_2.2.2.2.2.2.1 ?_
  first
  | refine x_eqi _ (nI_add _ _) ?_
  | skip
  refine x_sld C hXs hbl hbA _ rfl (by omega) hL D_L_law_2.2.2.2.2.2.2.1 ?_
  refine x_eqi _ y1 ?_
  refine x_aload_n C D_L_law_2.2.2.2.2.2.2.2.1 rfl rfl (by first | exact Or.inr ⟨_, rfl⟩ | exact va_rf_or _ | exact Or.inl rfl) ?_
  refine x_callW C hX (y := yL_add) (c_L_addG l G ow x o n m c al sp tu pt pc ps pa r d u g w k hlt hS ⟨hO.1, hO.2.1⟩ hk hal hlv) k_498 k_499 k_59 kw_add hd_L_add ⟨(Nat.le_of_ble_eq_true rfl), (Nat.le_of_ble_eq_true rfl)⟩ rfl (by first | exact Nat.le_of_ble_eq_true rfl | simp [x_crf, Value.category]) rfl rfl D_L_law_2.2.2.2.2.2.2.2.2.1 ⟨Nat.le_trans (Nat.add_le_add_left (Nat.le_of_ble_eq_true rfl : _ ≤ 20) _) (by omega), Nat.le_trans (Nat.add_le_add_left (Nat.le_of_ble_eq_true rfl : _ ≤ 400) _) (by omega)⟩ (fun r_180 S_180 h_180 => ?_)
  refine x_widen (k' := k0 + 20) (n' := n0 + 400) (Nat.add_le_add_left (Nat.le_of_ble_eq_true rfl) _) (Nat.add_le_add_left (Nat.le_of_ble_eq_true rfl) _) ?_
  obtain ⟨rfl, ow1, hF1, hS1⟩ := h_180
  obtain ⟨K1, N1, I1, Q1, J1⟩ := S_180
  have hM1 := hM.agree hF1
  have hO1 := hF1.o hO
  have hm1 : K1 mm = 9 := hM1.1.1
  have m1d : I1 mm 1 = d := hM1.2.2.2.2.1
  have m1r : I1 mm 2 = r := hM1.2.2.2.2.2.1
  have m1u : I1 mm 3 = u := hM1.2.2.2.2.2.2.1
  have m1g : I1 mm 4 = g := hM1.2.2.2.2.2.2.2.1
  have m1w : I1 mm 11 = w := hM1.2.2.2.2.2.2.2.2
  refine x_istore C (lv' := [_, _, _, _, _, _, _, _, _]) D_L_law_2.2.2.2.2.2.2.2.2.2.1 (Nat.le_of_ble_eq_true rfl) (by first | rfl | exact x_ok_q rfl) rfl ?_
  refine x_aload_n C D_L_law_2.2.2.2.2.2.2.2.2.2.2.1 rfl rfl (by first | exact Or.inr ⟨_, rfl⟩ | exact va_rf_or _ | exact Or.inl rfl) ?_
  refine x_aload_n C D_L_law_2.2.2.2.2.2.2.2.2.2.2.2 rfl rfl (by first | exact Or.inr ⟨_, rfl⟩ | exact va_rf_or _ | exact Or.inl rfl) ?_
  refine x_iload C D_L_law_3.1 rfl ?_
  refine x_iconst C (v := nI 1) D_L_law_3.2.1 (by decide +kernel) ?_
  refine x_iadd C D_L_law_3.2.2.1 ?_
  first
  | refine x_eqi _ (nI_add _ _) ?_
  | skip
  refine x_sld C hXs hbl hbA _ rfl (by omega) hL D_L_law_3.2.2.2.1 ?_
  refine x_eqi _ y1 ?_
  refine x_callVz C (y := yX9_add) (c_X9_addG l G mm n ar c sp tu pt al (c k) k hM1.1 hM1.2.1 hKB (hcb k hk) (KV_some hM1.2.1 hUP hcb hk) hal hlv) (ci := 8) hm1 (by decide) rfl rfl k_966 k_967 k_968 k_67 k_969 hd_X9_add ⟨(Nat.le_of_ble_eq_true rfl), (Nat.le_of_ble_eq_true rfl)⟩ rfl (by first | exact Nat.le_of_ble_eq_true rfl | simp [x_crf, Value.category]) rfl rfl D_L_law_3.2.2.2.2.1 ⟨Nat.le_trans (Nat.add_le_add_left (Nat.le_of_ble_eq_true rfl : _ ≤ 20) _) (by omega), Nat.le_trans (Nat.add_le_add_left (Nat.le_of_ble_eq_true rfl : _ ≤ 400) _) (by omega)⟩ (fun r_192 S_192 h_192 => ?_)
  refine x_widen (k' := k0 + 20 + 20) (n' := n0 + 400 + 400) (Nat.add_le_add_left (Nat.le_of_ble_eq_true rfl) _) (Nat.add_le_add_left (Nat.le_of_ble_eq_true rfl) _) ?_
  obtain ⟨rfl, rfl⟩ := h_192
  refine x_istore C (lv' := [_, _, _, _, _, _, _, _, _]) D_L_law_3.2.2.2.2.2.1 (Nat.le_of_ble_eq_true rfl) (by first | rfl | exact x_ok_q rfl) rfl ?_
  refine x_aload_n C D_L_law_3.2.2.2.2.2.2.1 rfl rfl (by first | exact Or.inr ⟨_, rfl⟩ | exact va_rf_or _ | exact Or.inl rfl) ?_
  refine x_callVi C (y := yX9_thrown) (c_X9_thrown l G mm hm1) (ci := 8) hm1 (by decide) rfl rfl k_962 k_963 k_964 k_67 k_965 hd_X9_thrown ⟨(Nat.le_of_ble_eq_true rfl), (Nat.le_of_ble_eq_true rfl)⟩ rfl (by first | exact Nat.le_of_ble_eq_true rfl | simp [x_crf, Value.category]) rfl rfl D_L_law_3.2.2.2.2.2.2.2.1 ⟨Nat.le_trans (Nat.add_le_add_left (Nat.le_of_ble_eq_true rfl : _ ≤ 20) _) (by omega), Nat.le_trans (Nat.add_le_add_left (Nat.le_of_ble_eq_true rfl : _ ≤ 400) _) (by omega)⟩ (fun r_198 S_198 h_198 => ?_)
  refine x_widen (k' := k0 + 20 + 20 + 20) (n' := n0 + 400 + 400 + 400) (Nat.add_le_add_left (Nat.le_of_ble_eq_true rfl) _) (Nat.add_le_add_left (Nat.le_of_ble_eq_true rfl) _) ?_
  obtain ⟨rfl, rfl⟩ := h_198
  refine x_eqi _ (show _ = nI 2 from x_u2_s _ _ _ _) ?_
  refine x_iload C D_L_law_3.2.2.2.2.2.2.2.2.1 rfl ?_
  refine x_icmp_eq C 208 D_L_law_3.2.2.2.2.2.2.2.2.2.1 (by decide) (fun c_203 => ?_) (fun c_203 => ?_)
  · skip
    refine x_iload C D_L_law_4.1 rfl ?_
    refine x_if_ne C 232 D_L_law_4.2.1 (by decide) (fun c_210 => ?_) (fun c_210 => ?_)
    · skip
      refine x_goto C 1254 D_L_law_5.2.2.1 (by decide) ?_
      exact x_drop9 (x_widen (by omega) (by omega) (kk _ _ (INV.q hS1 hM1 hO1 hB _)))
    · skip
      exact absurd c_210 (by decide)
      --end
  · skip
    exact absurd rfl c_203
    --end
set_option maxHeartbeats 4000000 in
set_option maxRecDepth 100000 in
theorem lc_addF {p : Program} {l : Launch} {ee : Env} {s : State} {mi : MethodId} {args : Array Value} {below : List Frame} {meth : Method} {cd : Code} {G : xG} {Z : State → Prop} {rt : Option FieldType} {k0 n0 bs L i x mm o : Nat} {xs : Nat → Int32} {K N : Nat → Nat} {I : Nat → Nat → Int32} {Q : Nat → Nat → Option Nat} {J : Nat → Nat → Int64} {ow : xO} {n : Nat} {c : Nat → Nat} {al : Nat → Bool} {sp tu pt : Nat → Nat} {m : Nat} {pc : Nat → Nat} {pa : Nat → Bool} {ps : Nat → Nat} {r d u g w : Int32} {ar : Nat → Nat} (C : XC p s mi args meth cd code 9 RL rt G) (hX : gX G s s.heap) (hlt : l.stackTraces = false) (hXs : va_X bs L xs s s.heap) (hbl : bs < s.heap.size) (hbA : ¬ gA G bs) (hi : i + 5 ≤ L) (hL : L ≤ 2560) (hk0 : k0 + 100 ≤ room_1.cells) (hn0 : n0 + 2000 ≤ room_1.slots) (hS : SY ow (K, N, I, Q, J) x n c al sp tu pt m pc pa ps r d u g w) (hM : KM ow (K, N, I, Q, J) mm ar n c al sp tu pt m pc pa ps r d u g w) (hO : K o = 24 ∧ N o = 1 ∧ ow o = 10) (hB : BNm n al tu m pa) (cc : Nat) (y1 : xs (i + 1) = cv1 cc) (hcc : cc < 1999) (hnew : ∀ j, j < n → c j ≠ cc) (hlv : cn al n = 100) (kk : ∀ (ow1 : xO) (S1 : xS), INV ow1 S1 x mm o → XW p l ee room_1 s mi args below meth cd G Z (k0 + 100) (n0 + 2000) S1 1254 [some (.ref bs), some (.ref x), some (.ref mm), some (.ref o), some (.int (nI i)), none, none, none, none] []) : XW p l ee room_1 s mi args below meth cd G Z k0 n0 (K, N, I, Q, J) 172 [some (.ref bs), some (.ref x), some (.ref mm), some (.ref o), some (.int (nI i)), none, none, none, none] [] := by
  obtain ⟨hKB, hPB, hUP, hPI, hn2, hcb, hm2, hsb, hx⟩ := hS.kb
  have hx : K x = 8 := hx
  have hmm : K mm = 9 := hM.1.1
  have ht30 : ∀ i, i < n → tu i < 2 ^ 30 := fun i hi => Nat.lt_trans (hsb i hi).2 (by decide)
  have hs30 : ∀ i, i < n → sp i < 2 ^ 30 := fun i hi => Nat.lt_trans (hsb i hi).1 (by decide)
  have hp30 : ∀ i, i < m → ps i < 2 ^ 30 := fun i hi => Nat.lt_trans (hPB i hi).2.2 (by decide)
  have hno : ∀ j, j < n → ¬ cv1 (c j) = cv1 cc := fun j hj e => hnew j hj ((cv1_eq (hcb j hj) hcc).mp e)
  refine x_aload_n C D_L_law_2.2.1 rfl rfl (by first | exact Or.inr ⟨_, rfl⟩ | exact va_rf_or _ | exact Or.inl rfl) ?_
  refine x_aload_n C D_L_law_2.2.2.1 rfl rfl (by first | exact Or.inr ⟨_, rfl⟩ | exact va_rf_or _ | exact Or.inl rfl) ?_
  refine x_iload C D_L_law_2.2.2.2.1 rfl ?_
  refine x_iconst C (v := nI 1) D_L_law_2.2.2.2.2.1 (by decide +kernel) ?_
  refine x_iadd C D_L_law_2.2.2.2.2.2.1 ?_
  first
  | refine x_eqi _ (nI_add _ _) ?_
  | skip
  refine x_sld C hXs hbl hbA _ rfl (by omega) hL D_L_law_2.2.2.2.2.2.2.1 ?_
  refine x_eqi _ y1 ?_
  refine x_aload_n C D_L_law_2.2.2.2.2.2.2.2.1 rfl rfl (by first | exact Or.inr ⟨_, rfl⟩ | exact va_rf_or _ | exact Or.inl rfl) ?_
  refine x_callW C hX (y := yL_add) (c_L_addF l G ow x o n m c al sp tu pt pc ps pa r d u g w cc hlt hS ⟨hO.1, hO.2.1⟩ hcc hnew hlv) k_498 k_499 k_59 kw_add hd_L_add ⟨(Nat.le_of_ble_eq_true rfl), (Nat.le_of_ble_eq_true rfl)⟩ rfl (by first | exact Nat.le_of_ble_eq_true rfl | simp [x_crf, Value.category]) rfl rfl D_L_law_2.2.2.2.2.2.2.2.2.1 ⟨Nat.le_trans (Nat.add_le_add_left (Nat.le_of_ble_eq_true rfl : _ ≤ 20) _) (by omega), Nat.le_trans (Nat.add_le_add_left (Nat.le_of_ble_eq_true rfl : _ ≤ 400) _) (by omega)⟩ (fun r_180 S_180 h_180 => ?_)
  refine x_widen (k' := k0 + 20) (n' := n0 + 400) (Nat.add_le_add_left (Nat.le_of_ble_eq_true rfl) _) (Nat.add_le_add_left (Nat.le_of_ble_eq_true rfl) _) ?_
  obtain ⟨rfl, ow1, hF1, hS1⟩ := h_180
  obtain ⟨K1, N1, I1, Q1, J1⟩ := S_180
  have hM1 := hM.agree hF1
  have hO1 := hF1.o hO
  have hm1 : K1 mm = 9 := hM1.1.1
  have m1d : I1 mm 1 = d := hM1.2.2.2.2.1
  have m1r : I1 mm 2 = r := hM1.2.2.2.2.2.1
  have m1u : I1 mm 3 = u := hM1.2.2.2.2.2.2.1
  have m1g : I1 mm 4 = g := hM1.2.2.2.2.2.2.2.1
  have m1w : I1 mm 11 = w := hM1.2.2.2.2.2.2.2.2
  refine x_istore C (lv' := [_, _, _, _, _, _, _, _, _]) D_L_law_2.2.2.2.2.2.2.2.2.2.1 (Nat.le_of_ble_eq_true rfl) (by first | rfl | exact x_ok_q rfl) rfl ?_
  refine x_aload_n C D_L_law_2.2.2.2.2.2.2.2.2.2.2.1 rfl rfl (by first | exact Or.inr ⟨_, rfl⟩ | exact va_rf_or _ | exact Or.inl rfl) ?_
  refine x_aload_n C D_L_law_2.2.2.2.2.2.2.2.2.2.2.2 rfl rfl (by first | exact Or.inr ⟨_, rfl⟩ | exact va_rf_or _ | exact Or.inl rfl) ?_
  refine x_iload C D_L_law_3.1 rfl ?_
  refine x_iconst C (v := nI 1) D_L_law_3.2.1 (by decide +kernel) ?_
  refine x_iadd C D_L_law_3.2.2.1 ?_
  first
  | refine x_eqi _ (nI_add _ _) ?_
  | skip
  refine x_sld C hXs hbl hbA _ rfl (by omega) hL D_L_law_3.2.2.2.1 ?_
  refine x_eqi _ y1 ?_
  refine x_callVz C (y := yX9_add) (c_X9_addF l G mm n ar c sp tu pt al cc 0 hM1.1 hM1.2.1 hKB hcc (KV_none hM1.2.1 hno) hlv) (ci := 8) hm1 (by decide) rfl rfl k_966 k_967 k_968 k_67 k_969 hd_X9_add ⟨(Nat.le_of_ble_eq_true rfl), (Nat.le_of_ble_eq_true rfl)⟩ rfl (by first | exact Nat.le_of_ble_eq_true rfl | simp [x_crf, Value.category]) rfl rfl D_L_law_3.2.2.2.2.1 ⟨Nat.le_trans (Nat.add_le_add_left (Nat.le_of_ble_eq_true rfl : _ ≤ 20) _) (by omega), Nat.le_trans (Nat.add_le_add_left (Nat.le_of_ble_eq_true rfl : _ ≤ 400) _) (by omega)⟩ (fun r_192 S_192 h_192 => ?_)
  refine x_widen (k' := k0 + 20 + 20) (n' := n0 + 400 + 400) (Nat.add_le_add_left (Nat.le_of_ble_eq_true rfl) _) (Nat.add_le_add_left (Nat.le_of_ble_eq_true rfl) _) ?_
  obtain ⟨rfl, rfl⟩ := h_192
  refine x_istore C (lv' := [_, _, _, _, _, _, _, _, _]) D_L_law_3.2.2.2.2.2.1 (Nat.le_of_ble_eq_true rfl) (by first | rfl | exact x_ok_q rfl) rfl ?_
  refine x_aload_n C D_L_law_3.2.2.2.2.2.2.1 rfl rfl (by first | exact Or.inr ⟨_, rfl⟩ | exact va_rf_or _ | exact Or.inl rfl) ?_
  refine x_callVi C (y := yX9_thrown) (c_X9_thrown l G mm hm1) (ci := 8) hm1 (by decide) rfl rfl k_962 k_963 k_964 k_67 k_965 hd_X9_thrown ⟨(Nat.le_of_ble_eq_true rfl), (Nat.le_of_ble_eq_true rfl)⟩ rfl (by first | exact Nat.le_of_ble_eq_true rfl | simp [x_crf, Value.category]) rfl rfl D_L_law_3.2.2.2.2.2.2.2.1 ⟨Nat.le_trans (Nat.add_le_add_left (Nat.le_of_ble_eq_true rfl : _ ≤ 20) _) (by omega), Nat.le_trans (Nat.add_le_add_left (Nat.le_of_ble_eq_true rfl : _ ≤ 400) _) (by omega)⟩ (fun r_198 S_198 h_198 => ?_)
  refine x_widen (k' := k0 + 20 + 20 + 20) (n' := n0 + 400 + 400 + 400) (Nat.add_le_add_left (Nat.le_of_ble_eq_true rfl) _) (Nat.add_le_add_left (Nat.le_of_ble_eq_true rfl) _) ?_
  obtain ⟨rfl, rfl⟩ := h_198
  refine x_eqi _ (show _ = nI 2 from x_u2_s _ _ _ _) ?_
  refine x_iload C D_L_law_3.2.2.2.2.2.2.2.2.1 rfl ?_
  refine x_icmp_eq C 208 D_L_law_3.2.2.2.2.2.2.2.2.2.1 (by decide) (fun c_203 => ?_) (fun c_203 => ?_)
  · skip
    refine x_iload C D_L_law_4.1 rfl ?_
    refine x_if_ne C 232 D_L_law_4.2.1 (by decide) (fun c_210 => ?_) (fun c_210 => ?_)
    · skip
      refine x_goto C 1254 D_L_law_5.2.2.1 (by decide) ?_
      exact x_drop9 (x_widen (by omega) (by omega) (kk _ _ (INV.q hS1 hM1 hO1 hB _)))
    · skip
      exact absurd c_210 (by decide)
      --end
  · skip
    exact absurd rfl c_203
    --end
set_option maxHeartbeats 4000000 in
set_option maxRecDepth 100000 in
theorem lc_addD {p : Program} {l : Launch} {ee : Env} {s : State} {mi : MethodId} {args : Array Value} {below : List Frame} {meth : Method} {cd : Code} {G : xG} {Z : State → Prop} {rt : Option FieldType} {k0 n0 bs L i x mm o : Nat} {xs : Nat → Int32} {K N : Nat → Nat} {I : Nat → Nat → Int32} {Q : Nat → Nat → Option Nat} {J : Nat → Nat → Int64} {ow : xO} {n : Nat} {c : Nat → Nat} {al : Nat → Bool} {sp tu pt : Nat → Nat} {m : Nat} {pc : Nat → Nat} {pa : Nat → Bool} {ps : Nat → Nat} {r d u g w : Int32} {ar : Nat → Nat} (C : XC p s mi args meth cd code 9 RL rt G) (hX : gX G s s.heap) (hlt : l.stackTraces = false) (hXs : va_X bs L xs s s.heap) (hbl : bs < s.heap.size) (hbA : ¬ gA G bs) (hi : i + 5 ≤ L) (hL : L ≤ 2560) (hk0 : k0 + 100 ≤ room_1.cells) (hn0 : n0 + 2000 ≤ room_1.slots) (hS : SY ow (K, N, I, Q, J) x n c al sp tu pt m pc pa ps r d u g w) (hM : KM ow (K, N, I, Q, J) mm ar n c al sp tu pt m pc pa ps r d u g w) (hO : K o = 24 ∧ N o = 1 ∧ ow o = 10) (hB : BNm n al tu m pa) (k : Nat) (hk : k < n) (y1 : xs (i + 1) = cv1 (c k)) (hal : al k = false) (hlv : cn al n < 100) (kk : ∀ (ow1 : xO) (S1 : xS), INV ow1 S1 x mm o → XW p l ee room_1 s mi args below meth cd G Z (k0 + 100) (n0 + 2000) S1 1254 [some (.ref bs), some (.ref x), some (.ref mm), some (.ref o), some (.int (nI i)), none, none, none, none] []) : XW p l ee room_1 s mi args below meth cd G Z k0 n0 (K, N, I, Q, J) 172 [some (.ref bs), some (.ref x), some (.ref mm), some (.ref o), some (.int (nI i)), none, none, none, none] [] := by
  obtain ⟨hKB, hPB, hUP, hPI, hn2, hcb, hm2, hsb, hx⟩ := hS.kb
  have hx : K x = 8 := hx
  have hmm : K mm = 9 := hM.1.1
  have ht30 : ∀ i, i < n → tu i < 2 ^ 30 := fun i hi => Nat.lt_trans (hsb i hi).2 (by decide)
  have hs30 : ∀ i, i < n → sp i < 2 ^ 30 := fun i hi => Nat.lt_trans (hsb i hi).1 (by decide)
  have hp30 : ∀ i, i < m → ps i < 2 ^ 30 := fun i hi => Nat.lt_trans (hPB i hi).2.2 (by decide)
  have hat : ∀ j, j < n → (al j = true ↔ 0 < tu j) := hB.2.2.1
  have htk : tu k = 0 := by
    have h9 := hat k hk
    rw [hal] at h9
    have : ¬ 0 < tu k := fun z => by have := h9.mpr z; cases this
    omega
  obtain ⟨⟨t7, H7⟩, ⟨t1, H1⟩, ⟨t5, H5⟩⟩ := hS.k7
  have hcl : cn (fun i => decide (0 < tu i)) n < 100 := by rw [cn_tu hat]; exact hlv
  have H7l := H7.leaf hk htk hcl
  have H7p := H7.lpos hk htk hcl
  refine x_aload_n C D_L_law_2.2.1 rfl rfl (by first | exact Or.inr ⟨_, rfl⟩ | exact va_rf_or _ | exact Or.inl rfl) ?_
  refine x_aload_n C D_L_law_2.2.2.1 rfl rfl (by first | exact Or.inr ⟨_, rfl⟩ | exact va_rf_or _ | exact Or.inl rfl) ?_
  refine x_iload C D_L_law_2.2.2.2.1 rfl ?_
  refine x_iconst C (v := nI 1) D_L_law_2.2.2.2.2.1 (by decide +kernel) ?_
  refine x_iadd C D_L_law_2.2.2.2.2.2.1 ?_
  first
  | refine x_eqi _ (nI_add _ _) ?_
  | skip
  refine x_sld C hXs hbl hbA _ rfl (by omega) hL D_L_law_2.2.2.2.2.2.2.1 ?_
  refine x_eqi _ y1 ?_
  refine x_aload_n C D_L_law_2.2.2.2.2.2.2.2.1 rfl rfl (by first | exact Or.inr ⟨_, rfl⟩ | exact va_rf_or _ | exact Or.inl rfl) ?_
  refine x_callW C hX (y := yL_add) (c_L_addD l G ow x o n m c al sp tu pt pc ps pa r d u g w k hlt hS ⟨hO.1, hO.2.1⟩ hk hat hal hlv) k_498 k_499 k_59 kw_add hd_L_add ⟨(Nat.le_of_ble_eq_true rfl), (Nat.le_of_ble_eq_true rfl)⟩ rfl (by first | exact Nat.le_of_ble_eq_true rfl | simp [x_crf, Value.category]) rfl rfl D_L_law_2.2.2.2.2.2.2.2.2.1 ⟨Nat.le_trans (Nat.add_le_add_left (Nat.le_of_ble_eq_true rfl : _ ≤ 20) _) (by omega), Nat.le_trans (Nat.add_le_add_left (Nat.le_of_ble_eq_true rfl : _ ≤ 400) _) (by omega)⟩ (fun r_180 S_180 h_180 => ?_)
  refine x_widen (k' := k0 + 20) (n' := n0 + 400) (Nat.add_le_add_left (Nat.le_of_ble_eq_true rfl) _) (Nat.add_le_add_left (Nat.le_of_ble_eq_true rfl) _) ?_
  obtain ⟨rfl, S0, J2, rfl, eJ2, ow1, hF1, hS1⟩ := h_180
  obtain ⟨K1, N1, I1, Q1, J1⟩ := S0
  have hM1 := (hM.agree hF1).J (J1 := J2)
  have hS1 := hS1.J (J1 := J2)
  have hO1 := hF1.o hO
  have hm1 : K1 mm = 9 := hM1.1.1
  have ko1 : K1 o = 24 := hO1.1
  have no1 : N1 o = 1 := hO1.2.1
  have m1d : I1 mm 1 = d := hM1.2.2.2.2.1
  have m1r : I1 mm 2 = r := hM1.2.2.2.2.2.1
  have m1u : I1 mm 3 = u := hM1.2.2.2.2.2.2.1
  have m1g : I1 mm 4 = g := hM1.2.2.2.2.2.2.2.1
  have m1w : I1 mm 11 = w := hM1.2.2.2.2.2.2.2.2
  refine x_istore C (lv' := [_, _, _, _, _, _, _, _, _]) D_L_law_2.2.2.2.2.2.2.2.2.2.1 (Nat.le_of_ble_eq_true rfl) (by first | rfl | exact x_ok_q rfl) rfl ?_
  refine x_aload_n C D_L_law_2.2.2.2.2.2.2.2.2.2.2.1 rfl rfl (by first | exact Or.inr ⟨_, rfl⟩ | exact va_rf_or _ | exact Or.inl rfl) ?_
  refine x_aload_n C D_L_law_2.2.2.2.2.2.2.2.2.2.2.2 rfl rfl (by first | exact Or.inr ⟨_, rfl⟩ | exact va_rf_or _ | exact Or.inl rfl) ?_
  refine x_iload C D_L_law_3.1 rfl ?_
  refine x_iconst C (v := nI 1) D_L_law_3.2.1 (by decide +kernel) ?_
  refine x_iadd C D_L_law_3.2.2.1 ?_
  first
  | refine x_eqi _ (nI_add _ _) ?_
  | skip
  refine x_sld C hXs hbl hbA _ rfl (by omega) hL D_L_law_3.2.2.2.1 ?_
  refine x_eqi _ y1 ?_
  refine x_callVz C (y := yX9_add) (c_X9_addD l G mm n ar c sp tu pt al (c k) k (hplT n c tu k) hM1.1 hM1.2.1 hKB (hcb k hk) (KV_some hM1.2.1 hUP hcb hk) hal hlv H7l.1 (Nat.lt_trans H7l.2.1 (by decide)) H7l.2.2) (ci := 8) hm1 (by decide) rfl rfl k_966 k_967 k_968 k_67 k_969 hd_X9_add ⟨(Nat.le_of_ble_eq_true rfl), (Nat.le_of_ble_eq_true rfl)⟩ rfl (by first | exact Nat.le_of_ble_eq_true rfl | simp [x_crf, Value.category]) rfl rfl D_L_law_3.2.2.2.2.1 ⟨Nat.le_trans (Nat.add_le_add_left (Nat.le_of_ble_eq_true rfl : _ ≤ 20) _) (by omega), Nat.le_trans (Nat.add_le_add_left (Nat.le_of_ble_eq_true rfl : _ ≤ 400) _) (by omega)⟩ (fun r_192 S_192 h_192 => ?_)
  refine x_widen (k' := k0 + 20 + 20) (n' := n0 + 400 + 400) (Nat.add_le_add_left (Nat.le_of_ble_eq_true rfl) _) (Nat.add_le_add_left (Nat.le_of_ble_eq_true rfl) _) ?_
  obtain ⟨rfl, I2, rfl, kv2, fr2, e18, e3, hj2⟩ := h_192
  refine x_istore C (lv' := [_, _, _, _, _, _, _, _, _]) D_L_law_3.2.2.2.2.2.1 (Nat.le_of_ble_eq_true rfl) (by first | rfl | exact x_ok_q rfl) rfl ?_
  refine x_aload_n C D_L_law_3.2.2.2.2.2.2.1 rfl rfl (by first | exact Or.inr ⟨_, rfl⟩ | exact va_rf_or _ | exact Or.inl rfl) ?_
  refine x_callVi C (y := yX9_thrown) (c_X9_thrown l G mm hm1) (ci := 8) hm1 (by decide) rfl rfl k_962 k_963 k_964 k_67 k_965 hd_X9_thrown ⟨(Nat.le_of_ble_eq_true rfl), (Nat.le_of_ble_eq_true rfl)⟩ rfl (by first | exact Nat.le_of_ble_eq_true rfl | simp [x_crf, Value.category]) rfl rfl D_L_law_3.2.2.2.2.2.2.2.1 ⟨Nat.le_trans (Nat.add_le_add_left (Nat.le_of_ble_eq_true rfl : _ ≤ 20) _) (by omega), Nat.le_trans (Nat.add_le_add_left (Nat.le_of_ble_eq_true rfl : _ ≤ 400) _) (by omega)⟩ (fun r_198 S_198 h_198 => ?_)
  refine x_widen (k' := k0 + 20 + 20 + 20) (n' := n0 + 400 + 400 + 400) (Nat.add_le_add_left (Nat.le_of_ble_eq_true rfl) _) (Nat.add_le_add_left (Nat.le_of_ble_eq_true rfl) _) ?_
  obtain ⟨rfl, rfl⟩ := h_198
  refine x_eqi _ (show _ = nI 0 from e18) ?_
  refine x_iload C D_L_law_3.2.2.2.2.2.2.2.2.1 rfl ?_
  refine x_icmp_eq C 208 D_L_law_3.2.2.2.2.2.2.2.2.2.1 (by decide) (fun c_203 => ?_) (fun c_203 => ?_)
  · skip
    refine x_iload C D_L_law_4.1 rfl ?_
    refine x_if_ne C 232 D_L_law_4.2.1 (by decide) (fun c_210 => ?_) (fun c_210 => ?_)
    · skip
      exact absurd rfl c_210
      --end
    · skip
      refine x_aload_n C D_L_law_4.2.2.1 rfl rfl (by first | exact Or.inr ⟨_, rfl⟩ | exact va_rf_or _ | exact Or.inl rfl) ?_
      refine x_iconst C (v := nI 0) D_L_law_4.2.2.2.1 (by decide +kernel) ?_
      refine x_lald C 0 ko1 rfl (by omega) (by omega) D_L_law_4.2.2.2.2.1 ?_
      refine x_eql _ (show J2 o 0 = _ by rw [eJ2, x_u2_s]) ?_
      refine x_iload C D_L_law_4.2.2.2.2.2.1 rfl ?_
      refine x_if_eq C 225 D_L_law_4.2.2.2.2.2.2.1 (by decide) (fun c_218 => ?_) (fun c_218 => ?_)
      · skip
        exact absurd c_218 (by decide)
        --end
      · skip
        refine x_lconst C (v := 1) D_L_law_4.2.2.2.2.2.2.2.1 (by decide +kernel) ?_
        refine x_goto C 226 D_L_law_4.2.2.2.2.2.2.2.2.1 (by decide) ?_
        refine x_lcmp C D_L_law_4.2.2.2.2.2.2.2.2.2.2.1 ?_
        refine x_eqi _ (lg_self _) ?_
        refine x_if_eq C 232 D_L_law_4.2.2.2.2.2.2.2.2.2.2.2 (by decide) (fun c_227 => ?_) (fun c_227 => ?_)
        · skip
          refine x_goto C 1254 D_L_law_5.2.2.1 (by decide) ?_
          exact x_drop9 (x_widen (by omega) (by omega) (kk _ _ (INV.mk (hS1.fr9 (fr9_keys hM1 fr2)) (hM1.keys kv2 fr2 (hj2 10 (by omega) (by omega)) (hj2 11 (by omega) (by omega)) ((hj2 1 (by omega) (by omega)).trans m1d) ((hj2 2 (by omega) (by omega)).trans m1r) (e3.trans (congrArg (fun z => z + _) m1u)) ((hj2 4 (by omega) (by omega)).trans m1g)) hO1 (hB.addD hk hal hlv H7p (fun z => balsM_pos _ _ _ _)))))
        · skip
          exact absurd rfl c_227
          --end
  · skip
    exact absurd rfl c_203
    --end
set_option maxHeartbeats 4000000 in
set_option maxRecDepth 100000 in
theorem lc_addN {p : Program} {l : Launch} {ee : Env} {s : State} {mi : MethodId} {args : Array Value} {below : List Frame} {meth : Method} {cd : Code} {G : xG} {Z : State → Prop} {rt : Option FieldType} {k0 n0 bs L i x mm o : Nat} {xs : Nat → Int32} {K N : Nat → Nat} {I : Nat → Nat → Int32} {Q : Nat → Nat → Option Nat} {J : Nat → Nat → Int64} {ow : xO} {n : Nat} {c : Nat → Nat} {al : Nat → Bool} {sp tu pt : Nat → Nat} {m : Nat} {pc : Nat → Nat} {pa : Nat → Bool} {ps : Nat → Nat} {r d u g w : Int32} {ar : Nat → Nat} (C : XC p s mi args meth cd code 9 RL rt G) (hX : gX G s s.heap) (hlt : l.stackTraces = false) (hXs : va_X bs L xs s s.heap) (hbl : bs < s.heap.size) (hbA : ¬ gA G bs) (hi : i + 5 ≤ L) (hL : L ≤ 2560) (hk0 : k0 + 100 ≤ room_1.cells) (hn0 : n0 + 2000 ≤ room_1.slots) (hS : SY ow (K, N, I, Q, J) x n c al sp tu pt m pc pa ps r d u g w) (hM : KM ow (K, N, I, Q, J) mm ar n c al sp tu pt m pc pa ps r d u g w) (hO : K o = 24 ∧ N o = 1 ∧ ow o = 10) (hB : BNm n al tu m pa) (cc : Nat) (y1 : xs (i + 1) = cv1 cc) (hcc : cc < 1999) (hnew : ∀ j, j < n → c j ≠ cc) (hlv : cn al n < 100) (kk : ∀ (ow1 : xO) (S1 : xS), INV ow1 S1 x mm o → XW p l ee room_1 s mi args below meth cd G Z (k0 + 100) (n0 + 2000) S1 1254 [some (.ref bs), some (.ref x), some (.ref mm), some (.ref o), some (.int (nI i)), none, none, none, none] []) : XW p l ee room_1 s mi args below meth cd G Z k0 n0 (K, N, I, Q, J) 172 [some (.ref bs), some (.ref x), some (.ref mm), some (.ref o), some (.int (nI i)), none, none, none, none] [] := by
  obtain ⟨hKB, hPB, hUP, hPI, hn2, hcb, hm2, hsb, hx⟩ := hS.kb
  have hx : K x = 8 := hx
  have hmm : K mm = 9 := hM.1.1
  have ht30 : ∀ i, i < n → tu i < 2 ^ 30 := fun i hi => Nat.lt_trans (hsb i hi).2 (by decide)
  have hs30 : ∀ i, i < n → sp i < 2 ^ 30 := fun i hi => Nat.lt_trans (hsb i hi).1 (by decide)
  have hp30 : ∀ i, i < m → ps i < 2 ^ 30 := fun i hi => Nat.lt_trans (hPB i hi).2.2 (by decide)
  have hno : ∀ j, j < n → ¬ cv1 (c j) = cv1 cc := fun j hj e => hnew j hj ((cv1_eq (hcb j hj) hcc).mp e)
  have hat : ∀ j, j < n → (al j = true ↔ 0 < tu j) := hB.2.2.1
  have hdd := hB.1
  have hA := insP_le (fun k => decide (cc < c k)) n
  obtain ⟨⟨t7, H7⟩, ⟨t1, H1⟩, ⟨t5, H5⟩⟩ := hS.k7
  have hn9 : n ≤ 200 := hn2
  have H1l := H1.leaf hn9 hnew
  have H7z := H7.ins0 hnew
  have hcl : cn (fun i => decide (0 < ins tu (insP (fun k => decide (cc < c k)) n) 0 i)) (n + 1) < 100 := by rw [cn_tu0 hA, cn_tu hat]; exact hlv
  have H7l := H7z.leaf (k := (insP (fun k => decide (cc < c k)) n)) (by omega) ins_at hcl
  have H7p := H7z.lpos (k := (insP (fun k => decide (cc < c k)) n)) (by omega) ins_at hcl
  refine x_aload_n C D_L_law_2.2.1 rfl rfl (by first | exact Or.inr ⟨_, rfl⟩ | exact va_rf_or _ | exact Or.inl rfl) ?_
  refine x_aload_n C D_L_law_2.2.2.1 rfl rfl (by first | exact Or.inr ⟨_, rfl⟩ | exact va_rf_or _ | exact Or.inl rfl) ?_
  refine x_iload C D_L_law_2.2.2.2.1 rfl ?_
  refine x_iconst C (v := nI 1) D_L_law_2.2.2.2.2.1 (by decide +kernel) ?_
  refine x_iadd C D_L_law_2.2.2.2.2.2.1 ?_
  first
  | refine x_eqi _ (nI_add _ _) ?_
  | skip
  refine x_sld C hXs hbl hbA _ rfl (by omega) hL D_L_law_2.2.2.2.2.2.2.1 ?_
  refine x_eqi _ y1 ?_
  refine x_aload_n C D_L_law_2.2.2.2.2.2.2.2.1 rfl rfl (by first | exact Or.inr ⟨_, rfl⟩ | exact va_rf_or _ | exact Or.inl rfl) ?_
  refine x_callW C hX (y := yL_add) (c_L_addN l G ow x o n m c al sp tu pt pc ps pa r d u g w cc hlt hS ⟨hO.1, hO.2.1⟩ hat hcc hnew hlv hdd) k_498 k_499 k_59 kw_add hd_L_add ⟨(Nat.le_of_ble_eq_true rfl), (Nat.le_of_ble_eq_true rfl)⟩ rfl (by first | exact Nat.le_of_ble_eq_true rfl | simp [x_crf, Value.category]) rfl rfl D_L_law_2.2.2.2.2.2.2.2.2.1 ⟨Nat.le_trans (Nat.add_le_add_left (Nat.le_of_ble_eq_true rfl : _ ≤ 20) _) (by omega), Nat.le_trans (Nat.add_le_add_left (Nat.le_of_ble_eq_true rfl : _ ≤ 400) _) (by omega)⟩ (fun r_180 S_180 h_180 => ?_)
  refine x_widen (k' := k0 + 20) (n' := n0 + 400) (Nat.add_le_add_left (Nat.le_of_ble_eq_true rfl) _) (Nat.add_le_add_left (Nat.le_of_ble_eq_true rfl) _) ?_
  obtain ⟨rfl, S0, J2, rfl, eJ2, ow1, hF1, hS1⟩ := h_180
  obtain ⟨K1, N1, I1, Q1, J1⟩ := S0
  have hM1 := (hM.agree hF1).J (J1 := J2)
  have hS1 := hS1.J (J1 := J2)
  have hO1 := hF1.o hO
  have hm1 : K1 mm = 9 := hM1.1.1
  have ko1 : K1 o = 24 := hO1.1
  have no1 : N1 o = 1 := hO1.2.1
  have m1d : I1 mm 1 = d := hM1.2.2.2.2.1
  have m1r : I1 mm 2 = r := hM1.2.2.2.2.2.1
  have m1u : I1 mm 3 = u := hM1.2.2.2.2.2.2.1
  have m1g : I1 mm 4 = g := hM1.2.2.2.2.2.2.2.1
  have m1w : I1 mm 11 = w := hM1.2.2.2.2.2.2.2.2
  refine x_istore C (lv' := [_, _, _, _, _, _, _, _, _]) D_L_law_2.2.2.2.2.2.2.2.2.2.1 (Nat.le_of_ble_eq_true rfl) (by first | rfl | exact x_ok_q rfl) rfl ?_
  refine x_aload_n C D_L_law_2.2.2.2.2.2.2.2.2.2.2.1 rfl rfl (by first | exact Or.inr ⟨_, rfl⟩ | exact va_rf_or _ | exact Or.inl rfl) ?_
  refine x_aload_n C D_L_law_2.2.2.2.2.2.2.2.2.2.2.2 rfl rfl (by first | exact Or.inr ⟨_, rfl⟩ | exact va_rf_or _ | exact Or.inl rfl) ?_
  refine x_iload C D_L_law_3.1 rfl ?_
  refine x_iconst C (v := nI 1) D_L_law_3.2.1 (by decide +kernel) ?_
  refine x_iadd C D_L_law_3.2.2.1 ?_
  first
  | refine x_eqi _ (nI_add _ _) ?_
  | skip
  refine x_sld C hXs hbl hbA _ rfl (by omega) hL D_L_law_3.2.2.2.1 ?_
  refine x_eqi _ y1 ?_
  refine x_callVz C (y := yX9_add) (c_X9_addN l G mm n ar c sp tu pt al cc (hpl1 n c sp cc) (hplT (n + 1) (ins c (insP (fun k => decide (cc < c k)) n) cc) (ins tu (insP (fun k => decide (cc < c k)) n) 0) (insP (fun k => decide (cc < c k)) n)) hM1.1 hM1.2.1 hKB hn9 hcc (KV_none hM1.2.1 hno) hlv H1l.1 H1l.2 H7l.1 (Nat.lt_trans H7l.2.1 (by decide)) H7l.2.2) (ci := 8) hm1 (by decide) rfl rfl k_966 k_967 k_968 k_67 k_969 hd_X9_add ⟨(Nat.le_of_ble_eq_true rfl), (Nat.le_of_ble_eq_true rfl)⟩ rfl (by first | exact Nat.le_of_ble_eq_true rfl | simp [x_crf, Value.category]) rfl rfl D_L_law_3.2.2.2.2.1 ⟨Nat.le_trans (Nat.add_le_add_left (Nat.le_of_ble_eq_true rfl : _ ≤ 20) _) (by omega), Nat.le_trans (Nat.add_le_add_left (Nat.le_of_ble_eq_true rfl : _ ≤ 400) _) (by omega)⟩ (fun r_192 S_192 h_192 => ?_)
  refine x_widen (k' := k0 + 20 + 20) (n' := n0 + 400 + 400) (Nat.add_le_add_left (Nat.le_of_ble_eq_true rfl) _) (Nat.add_le_add_left (Nat.le_of_ble_eq_true rfl) _) ?_
  obtain ⟨rfl, I2, rfl, kv2, fr2, e18, e2, e3, e4, hj2⟩ := h_192
  refine x_istore C (lv' := [_, _, _, _, _, _, _, _, _]) D_L_law_3.2.2.2.2.2.1 (Nat.le_of_ble_eq_true rfl) (by first | rfl | exact x_ok_q rfl) rfl ?_
  refine x_aload_n C D_L_law_3.2.2.2.2.2.2.1 rfl rfl (by first | exact Or.inr ⟨_, rfl⟩ | exact va_rf_or _ | exact Or.inl rfl) ?_
  refine x_callVi C (y := yX9_thrown) (c_X9_thrown l G mm hm1) (ci := 8) hm1 (by decide) rfl rfl k_962 k_963 k_964 k_67 k_965 hd_X9_thrown ⟨(Nat.le_of_ble_eq_true rfl), (Nat.le_of_ble_eq_true rfl)⟩ rfl (by first | exact Nat.le_of_ble_eq_true rfl | simp [x_crf, Value.category]) rfl rfl D_L_law_3.2.2.2.2.2.2.2.1 ⟨Nat.le_trans (Nat.add_le_add_left (Nat.le_of_ble_eq_true rfl : _ ≤ 20) _) (by omega), Nat.le_trans (Nat.add_le_add_left (Nat.le_of_ble_eq_true rfl : _ ≤ 400) _) (by omega)⟩ (fun r_198 S_198 h_198 => ?_)
  refine x_widen (k' := k0 + 20 + 20 + 20) (n' := n0 + 400 + 400 + 400) (Nat.add_le_add_left (Nat.le_of_ble_eq_true rfl) _) (Nat.add_le_add_left (Nat.le_of_ble_eq_true rfl) _) ?_
  obtain ⟨rfl, rfl⟩ := h_198
  refine x_eqi _ (show _ = nI 0 from e18) ?_
  refine x_iload C D_L_law_3.2.2.2.2.2.2.2.2.1 rfl ?_
  refine x_icmp_eq C 208 D_L_law_3.2.2.2.2.2.2.2.2.2.1 (by decide) (fun c_203 => ?_) (fun c_203 => ?_)
  · skip
    refine x_iload C D_L_law_4.1 rfl ?_
    refine x_if_ne C 232 D_L_law_4.2.1 (by decide) (fun c_210 => ?_) (fun c_210 => ?_)
    · skip
      exact absurd rfl c_210
      --end
    · skip
      refine x_aload_n C D_L_law_4.2.2.1 rfl rfl (by first | exact Or.inr ⟨_, rfl⟩ | exact va_rf_or _ | exact Or.inl rfl) ?_
      refine x_iconst C (v := nI 0) D_L_law_4.2.2.2.1 (by decide +kernel) ?_
      refine x_lald C 0 ko1 rfl (by omega) (by omega) D_L_law_4.2.2.2.2.1 ?_
      refine x_eql _ (show J2 o 0 = _ by rw [eJ2, x_u2_s]) ?_
      refine x_iload C D_L_law_4.2.2.2.2.2.1 rfl ?_
      refine x_if_eq C 225 D_L_law_4.2.2.2.2.2.2.1 (by decide) (fun c_218 => ?_) (fun c_218 => ?_)
      · skip
        exact absurd c_218 (by decide)
        --end
      · skip
        refine x_lconst C (v := 1) D_L_law_4.2.2.2.2.2.2.2.1 (by decide +kernel) ?_
        refine x_goto C 226 D_L_law_4.2.2.2.2.2.2.2.2.1 (by decide) ?_
        refine x_lcmp C D_L_law_4.2.2.2.2.2.2.2.2.2.2.1 ?_
        refine x_eqi _ (lg_self _) ?_
        refine x_if_eq C 232 D_L_law_4.2.2.2.2.2.2.2.2.2.2.2 (by decide) (fun c_227 => ?_) (fun c_227 => ?_)
        · skip
          refine x_goto C 1254 D_L_law_5.2.2.1 (by decide) ?_
          exact x_drop9 (x_widen (by omega) (by omega) (kk _ _ (INV.mk (hS1.fr9 (fr9_keys hM1 fr2)) (hM1.keys kv2 fr2 (hj2 10 (by omega) (by omega) (by omega) (by omega) (by omega)) (hj2 11 (by omega) (by omega) (by omega) (by omega) (by omega)) ((hj2 1 (by omega) (by omega) (by omega) (by omega) (by omega)).trans m1d) (e2.trans (congrArg (fun z => z + _) m1r)) (e3.trans (congrArg (fun z => z + _) m1u)) (e4.trans (congrArg (fun z => z + _) m1g))) hO1 (hB.addN hA hlv H7p (fun z => balsM_pos _ _ _ _)))))
        · skip
          exact absurd rfl c_227
          --end
  · skip
    exact absurd rfl c_203
    --end
theorem hd_X8_remove : yX8_remove.cls ≠ "java/lang/invoke/MethodHandle" ∧ yX8_remove.cls ≠ "java/lang/invoke/VarHandle" ∧ (parseMethodDescriptor yX8_remove.desc).map (fun d => d.parameters.length) = some 1 := by decide +kernel
theorem hd_X9_remove : yX9_remove.cls ≠ "java/lang/invoke/MethodHandle" ∧ yX9_remove.cls ≠ "java/lang/invoke/VarHandle" ∧ (parseMethodDescriptor yX9_remove.desc).map (fun d => d.parameters.length) = some 1 := by decide +kernel
set_option maxHeartbeats 4000000 in
set_option maxRecDepth 100000 in
theorem lc_removeN {p : Program} {l : Launch} {ee : Env} {s : State} {mi : MethodId} {args : Array Value} {below : List Frame} {meth : Method} {cd : Code} {G : xG} {Z : State → Prop} {rt : Option FieldType} {k0 n0 bs L i x mm o : Nat} {xs : Nat → Int32} {K N : Nat → Nat} {I : Nat → Nat → Int32} {Q : Nat → Nat → Option Nat} {J : Nat → Nat → Int64} {ow : xO} {n : Nat} {c : Nat → Nat} {al : Nat → Bool} {sp tu pt : Nat → Nat} {m : Nat} {pc : Nat → Nat} {pa : Nat → Bool} {ps : Nat → Nat} {r d u g w : Int32} {ar : Nat → Nat} (C : XC p s mi args meth cd code 9 RL rt G) (hX : gX G s s.heap) (hlt : l.stackTraces = false) (hXs : va_X bs L xs s s.heap) (hbl : bs < s.heap.size) (hbA : ¬ gA G bs) (hi : i + 5 ≤ L) (hL : L ≤ 2560) (hk0 : k0 + 100 ≤ room_1.cells) (hn0 : n0 + 2000 ≤ room_1.slots) (hS : SY ow (K, N, I, Q, J) x n c al sp tu pt m pc pa ps r d u g w) (hM : KM ow (K, N, I, Q, J) mm ar n c al sp tu pt m pc pa ps r d u g w) (hO : K o = 24 ∧ N o = 1 ∧ ow o = 10) (hB : BNm n al tu m pa) (hno : ∀ j, j < n → ¬ cv1 (c j) = xs (i + 1)) (kk : ∀ (ow1 : xO) (S1 : xS), INV ow1 S1 x mm o → XW p l ee room_1 s mi args below meth cd G Z (k0 + 100) (n0 + 2000) S1 1254 [some (.ref bs), some (.ref x), some (.ref mm), some (.ref o), some (.int (nI i)), none, none, none, none] []) : XW p l ee room_1 s mi args below meth cd G Z k0 n0 (K, N, I, Q, J) 235 [some (.ref bs), some (.ref x), some (.ref mm), some (.ref o), some (.int (nI i)), none, none, none, none] [] := by
  obtain ⟨hKB, hPB, hUP, hPI, hn2, hcb, hm2, hsb, hx⟩ := hS.kb
  have hx : K x = 8 := hx
  have hmm : K mm = 9 := hM.1.1
  have ht30 : ∀ i, i < n → tu i < 2 ^ 30 := fun i hi => Nat.lt_trans (hsb i hi).2 (by decide)
  have hs30 : ∀ i, i < n → sp i < 2 ^ 30 := fun i hi => Nat.lt_trans (hsb i hi).1 (by decide)
  have hp30 : ∀ i, i < m → ps i < 2 ^ 30 := fun i hi => Nat.lt_trans (hPB i hi).2.2 (by decide)
  refine x_aload_n C D_L_law_5.2.2.2.1 rfl rfl (by first | exact Or.inr ⟨_, rfl⟩ | exact va_rf_or _ | exact Or.inl rfl) ?_
  refine x_aload_n C D_L_law_5.2.2.2.2.1 rfl rfl (by first | exact Or.inr ⟨_, rfl⟩ | exact va_rf_or _ | exact Or.inl rfl) ?_
  refine x_iload C D_L_law_5.2.2.2.2.2.1 rfl ?_
  refine x_iconst C (v := nI 1) D_L_law_5.2.2.2.2.2.2.1 (by decide +kernel) ?_
  refine x_iadd C D_L_law_5.2.2.2.2.2.2.2.1 ?_
  first
  | refine x_eqi _ (nI_add _ _) ?_
  | skip
  refine x_sld C hXs hbl hbA _ rfl (by omega) hL D_L_law_5.2.2.2.2.2.2.2.2.1 ?_
  refine x_callVz C (y := yX8_remove) (c_X8_removeN l G ow x n m c al sp tu pt pc ps pa r d u g w (xs (i + 1)) hS hno) (ci := 7) (by assumption) (by decide) rfl rfl k_192 k_193 k_194 k_60 k_195 hd_X8_remove ⟨(Nat.le_of_ble_eq_true rfl), (Nat.le_of_ble_eq_true rfl)⟩ rfl (by first | exact Nat.le_of_ble_eq_true rfl | simp [x_crf, Value.category]) rfl rfl D_L_law_5.2.2.2.2.2.2.2.2.2.1 ⟨Nat.le_trans (Nat.add_le_add_left (Nat.le_of_ble_eq_true rfl : _ ≤ 20) _) (by omega), Nat.le_trans (Nat.add_le_add_left (Nat.le_of_ble_eq_true rfl : _ ≤ 400) _) (by omega)⟩ (fun r_242 S_242 h_242 => ?_)
  refine x_widen (k' := k0 + 20) (n' := n0 + 400) (Nat.add_le_add_left (Nat.le_of_ble_eq_true rfl) _) (Nat.add_le_add_left (Nat.le_of_ble_eq_true rfl) _) ?_
  obtain ⟨rfl, rfl⟩ := h_242
  have hM1 := hM
  have hS1 := hS
  have hO1 := hO
  have hm1 : K mm = 9 := hM1.1.1
  have m1d : I mm 1 = d := hM1.2.2.2.2.1
  have m1r : I mm 2 = r := hM1.2.2.2.2.2.1
  have m1u : I mm 3 = u := hM1.2.2.2.2.2.2.1
  have m1g : I mm 4 = g := hM1.2.2.2.2.2.2.2.1
  have m1w : I mm 11 = w := hM1.2.2.2.2.2.2.2.2
  refine x_aload_n C D_L_law_5.2.2.2.2.2.2.2.2.2.2.1 rfl rfl (by first | exact Or.inr ⟨_, rfl⟩ | exact va_rf_or _ | exact Or.inl rfl) ?_
  refine x_aload_n C D_L_law_5.2.2.2.2.2.2.2.2.2.2.2 rfl rfl (by first | exact Or.inr ⟨_, rfl⟩ | exact va_rf_or _ | exact Or.inl rfl) ?_
  refine x_iload C D_L_law_6.1 rfl ?_
  refine x_iconst C (v := nI 1) D_L_law_6.2.1 (by decide +kernel) ?_
  refine x_iadd C D_L_law_6.2.2.1 ?_
  first
  | refine x_eqi _ (nI_add _ _) ?_
  | skip
  refine x_sld C hXs hbl hbA _ rfl (by omega) hL D_L_law_6.2.2.2.1 ?_
  refine x_callVz C (y := yX9_remove) (c_X9_removeN l G mm n ar c sp tu pt al (xs (i + 1)) hM1.1 hM1.2.1 (KV_none hM1.2.1 hno)) (ci := 8) hm1 (by decide) rfl rfl k_1046 k_1047 k_1048 k_67 k_1049 hd_X9_remove ⟨(Nat.le_of_ble_eq_true rfl), (Nat.le_of_ble_eq_true rfl)⟩ rfl (by first | exact Nat.le_of_ble_eq_true rfl | simp [x_crf, Value.category]) rfl rfl D_L_law_6.2.2.2.2.1 ⟨Nat.le_trans (Nat.add_le_add_left (Nat.le_of_ble_eq_true rfl : _ ≤ 20) _) (by omega), Nat.le_trans (Nat.add_le_add_left (Nat.le_of_ble_eq_true rfl : _ ≤ 400) _) (by omega)⟩ (fun r_252 S_252 h_252 => ?_)
  refine x_widen (k' := k0 + 20 + 20) (n' := n0 + 400 + 400) (Nat.add_le_add_left (Nat.le_of_ble_eq_true rfl) _) (Nat.add_le_add_left (Nat.le_of_ble_eq_true rfl) _) ?_
  obtain ⟨rfl, rfl⟩ := h_252
  refine x_icmp_eq C 1254 D_L_law_6.2.2.2.2.2.1 (by decide) (fun c_255 => ?_) (fun c_255 => ?_)
  · skip
    exact x_drop9 (x_widen (by omega) (by omega) (kk _ _ (INV.q hS1 hM1 hO1 hB _)))
  · skip
    exact absurd rfl c_255
    --end
set_option maxHeartbeats 4000000 in
set_option maxRecDepth 100000 in
theorem lc_removeG {p : Program} {l : Launch} {ee : Env} {s : State} {mi : MethodId} {args : Array Value} {below : List Frame} {meth : Method} {cd : Code} {G : xG} {Z : State → Prop} {rt : Option FieldType} {k0 n0 bs L i x mm o : Nat} {xs : Nat → Int32} {K N : Nat → Nat} {I : Nat → Nat → Int32} {Q : Nat → Nat → Option Nat} {J : Nat → Nat → Int64} {ow : xO} {n : Nat} {c : Nat → Nat} {al : Nat → Bool} {sp tu pt : Nat → Nat} {m : Nat} {pc : Nat → Nat} {pa : Nat → Bool} {ps : Nat → Nat} {r d u g w : Int32} {ar : Nat → Nat} (C : XC p s mi args meth cd code 9 RL rt G) (hX : gX G s s.heap) (hlt : l.stackTraces = false) (hXs : va_X bs L xs s s.heap) (hbl : bs < s.heap.size) (hbA : ¬ gA G bs) (hi : i + 5 ≤ L) (hL : L ≤ 2560) (hk0 : k0 + 100 ≤ room_1.cells) (hn0 : n0 + 2000 ≤ room_1.slots) (hS : SY ow (K, N, I, Q, J) x n c al sp tu pt m pc pa ps r d u g w) (hM : KM ow (K, N, I, Q, J) mm ar n c al sp tu pt m pc pa ps r d u g w) (hO : K o = 24 ∧ N o = 1 ∧ ow o = 10) (hB : BNm n al tu m pa) (k : Nat) (hk : k < n) (y1 : xs (i + 1) = cv1 (c k)) (hal : al k = false) (kk : ∀ (ow1 : xO) (S1 : xS), INV ow1 S1 x mm o → XW p l ee room_1 s mi args below meth cd G Z (k0 + 100) (n0 + 2000) S1 1254 [some (.ref bs), some (.ref x), some (.ref mm), some (.ref o), some (.int (nI i)), none, none, none, none] []) : XW p l ee room_1 s mi args below meth cd G Z k0 n0 (K, N, I, Q, J) 235 [some (.ref bs), some (.ref x), some (.ref mm), some (.ref o), some (.int (nI i)), none, none, none, none] [] := by
  obtain ⟨hKB, hPB, hUP, hPI, hn2, hcb, hm2, hsb, hx⟩ := hS.kb
  have hx : K x = 8 := hx
  have hmm : K mm = 9 := hM.1.1
  have ht30 : ∀ i, i < n → tu i < 2 ^ 30 := fun i hi => Nat.lt_trans (hsb i hi).2 (by decide)
  have hs30 : ∀ i, i < n → sp i < 2 ^ 30 := fun i hi => Nat.lt_trans (hsb i hi).1 (by decide)
  have hp30 : ∀ i, i < m → ps i < 2 ^ 30 := fun i hi => Nat.lt_trans (hPB i hi).2.2 (by decide)
  refine x_aload_n C D_L_law_5.2.2.2.1 rfl rfl (by first | exact Or.inr ⟨_, rfl⟩ | exact va_rf_or _ | exact Or.inl rfl) ?_
  refine x_aload_n C D_L_law_5.2.2.2.2.1 rfl rfl (by first | exact Or.inr ⟨_, rfl⟩ | exact va_rf_or _ | exact Or.inl rfl) ?_
  refine x_iload C D_L_law_5.2.2.2.2.2.1 rfl ?_
  refine x_iconst C (v := nI 1) D_L_law_5.2.2.2.2.2.2.1 (by decide +kernel) ?_
  refine x_iadd C D_L_law_5.2.2.2.2.2.2.2.1 ?_
  first
  | refine x_eqi _ (nI_add _ _) ?_
  | skip
  refine x_sld C hXs hbl hbA _ rfl (by omega) hL D_L_law_5.2.2.2.2.2.2.2.2.1 ?_
  refine x_eqi _ y1 ?_
  refine x_callVz C (y := yX8_remove) (c_X8_removeG l G ow x n m c al sp tu pt pc ps pa r d u g w k hS hk hal) (ci := 7) (by assumption) (by decide) rfl rfl k_192 k_193 k_194 k_60 k_195 hd_X8_remove ⟨(Nat.le_of_ble_eq_true rfl), (Nat.le_of_ble_eq_true rfl)⟩ rfl (by first | exact Nat.le_of_ble_eq_true rfl | simp [x_crf, Value.category]) rfl rfl D_L_law_5.2.2.2.2.2.2.2.2.2.1 ⟨Nat.le_trans (Nat.add_le_add_left (Nat.le_of_ble_eq_true rfl : _ ≤ 20) _) (by omega), Nat.le_trans (Nat.add_le_add_left (Nat.le_of_ble_eq_true rfl : _ ≤ 400) _) (by omega)⟩ (fun r_242 S_242 h_242 => ?_)
  refine x_widen (k' := k0 + 20) (n' := n0 + 400) (Nat.add_le_add_left (Nat.le_of_ble_eq_true rfl) _) (Nat.add_le_add_left (Nat.le_of_ble_eq_true rfl) _) ?_
  obtain ⟨rfl, rfl⟩ := h_242
  have hM1 := hM
  have hS1 := hS
  have hO1 := hO
  have hm1 : K mm = 9 := hM1.1.1
  have m1d : I mm 1 = d := hM1.2.2.2.2.1
  have m1r : I mm 2 = r := hM1.2.2.2.2.2.1
  have m1u : I mm 3 = u := hM1.2.2.2.2.2.2.1
  have m1g : I mm 4 = g := hM1.2.2.2.2.2.2.2.1
  have m1w : I mm 11 = w := hM1.2.2.2.2.2.2.2.2
  refine x_aload_n C D_L_law_5.2.2.2.2.2.2.2.2.2.2.1 rfl rfl (by first | exact Or.inr ⟨_, rfl⟩ | exact va_rf_or _ | exact Or.inl rfl) ?_
  refine x_aload_n C D_L_law_5.2.2.2.2.2.2.2.2.2.2.2 rfl rfl (by first | exact Or.inr ⟨_, rfl⟩ | exact va_rf_or _ | exact Or.inl rfl) ?_
  refine x_iload C D_L_law_6.1 rfl ?_
  refine x_iconst C (v := nI 1) D_L_law_6.2.1 (by decide +kernel) ?_
  refine x_iadd C D_L_law_6.2.2.1 ?_
  first
  | refine x_eqi _ (nI_add _ _) ?_
  | skip
  refine x_sld C hXs hbl hbA _ rfl (by omega) hL D_L_law_6.2.2.2.1 ?_
  refine x_eqi _ y1 ?_
  refine x_callVz C (y := yX9_remove) (c_X9_removeG l G mm n ar c sp tu pt al (cv1 (c k)) k hM1.1 hM1.2.1 (KV_some hM1.2.1 hUP hcb hk) hal) (ci := 8) hm1 (by decide) rfl rfl k_1046 k_1047 k_1048 k_67 k_1049 hd_X9_remove ⟨(Nat.le_of_ble_eq_true rfl), (Nat.le_of_ble_eq_true rfl)⟩ rfl (by first | exact Nat.le_of_ble_eq_true rfl | simp [x_crf, Value.category]) rfl rfl D_L_law_6.2.2.2.2.1 ⟨Nat.le_trans (Nat.add_le_add_left (Nat.le_of_ble_eq_true rfl : _ ≤ 20) _) (by omega), Nat.le_trans (Nat.add_le_add_left (Nat.le_of_ble_eq_true rfl : _ ≤ 400) _) (by omega)⟩ (fun r_252 S_252 h_252 => ?_)
  refine x_widen (k' := k0 + 20 + 20) (n' := n0 + 400 + 400) (Nat.add_le_add_left (Nat.le_of_ble_eq_true rfl) _) (Nat.add_le_add_left (Nat.le_of_ble_eq_true rfl) _) ?_
  obtain ⟨rfl, rfl⟩ := h_252
  refine x_icmp_eq C 1254 D_L_law_6.2.2.2.2.2.1 (by decide) (fun c_255 => ?_) (fun c_255 => ?_)
  · skip
    exact x_drop9 (x_widen (by omega) (by omega) (kk _ _ (INV.q hS1 hM1 hO1 hB _)))
  · skip
    exact absurd rfl c_255
    --end
set_option maxHeartbeats 4000000 in
set_option maxRecDepth 100000 in
theorem lc_removeK {p : Program} {l : Launch} {ee : Env} {s : State} {mi : MethodId} {args : Array Value} {below : List Frame} {meth : Method} {cd : Code} {G : xG} {Z : State → Prop} {rt : Option FieldType} {k0 n0 bs L i x mm o : Nat} {xs : Nat → Int32} {K N : Nat → Nat} {I : Nat → Nat → Int32} {Q : Nat → Nat → Option Nat} {J : Nat → Nat → Int64} {ow : xO} {n : Nat} {c : Nat → Nat} {al : Nat → Bool} {sp tu pt : Nat → Nat} {m : Nat} {pc : Nat → Nat} {pa : Nat → Bool} {ps : Nat → Nat} {r d u g w : Int32} {ar : Nat → Nat} (C : XC p s mi args meth cd code 9 RL rt G) (hX : gX G s s.heap) (hlt : l.stackTraces = false) (hXs : va_X bs L xs s s.heap) (hbl : bs < s.heap.size) (hbA : ¬ gA G bs) (hi : i + 5 ≤ L) (hL : L ≤ 2560) (hk0 : k0 + 100 ≤ room_1.cells) (hn0 : n0 + 2000 ≤ room_1.slots) (hS : SY ow (K, N, I, Q, J) x n c al sp tu pt m pc pa ps r d u g w) (hM : KM ow (K, N, I, Q, J) mm ar n c al sp tu pt m pc pa ps r d u g w) (hO : K o = 24 ∧ N o = 1 ∧ ow o = 10) (hB : BNm n al tu m pa) (k : Nat) (hk : k < n) (y1 : xs (i + 1) = cv1 (c k)) (hal : al k = true) (hcond : n - cn (x_up al k false) n ≤ cn (x_up al k false) n) (kk : ∀ (ow1 : xO) (S1 : xS), INV ow1 S1 x mm o → XW p l ee room_1 s mi args below meth cd G Z (k0 + 100) (n0 + 2000) S1 1254 [some (.ref bs), some (.ref x), some (.ref mm), some (.ref o), some (.int (nI i)), none, none, none, none] []) : XW p l ee room_1 s mi args below meth cd G Z k0 n0 (K, N, I, Q, J) 235 [some (.ref bs), some (.ref x), some (.ref mm), some (.ref o), some (.int (nI i)), none, none, none, none] [] := by
  obtain ⟨hKB, hPB, hUP, hPI, hn2, hcb, hm2, hsb, hx⟩ := hS.kb
  have hx : K x = 8 := hx
  have hmm : K mm = 9 := hM.1.1
  have ht30 : ∀ i, i < n → tu i < 2 ^ 30 := fun i hi => Nat.lt_trans (hsb i hi).2 (by decide)
  have hs30 : ∀ i, i < n → sp i < 2 ^ 30 := fun i hi => Nat.lt_trans (hsb i hi).1 (by decide)
  have hp30 : ∀ i, i < m → ps i < 2 ^ 30 := fun i hi => Nat.lt_trans (hPB i hi).2.2 (by decide)
  have hat : ∀ j, j < n → (al j = true ↔ 0 < tu j) := hB.2.2.1
  have htk : 0 < tu k := (hat k hk).mp hal
  obtain ⟨⟨t7, H7⟩, ⟨t1, H1⟩, ⟨t5, H5⟩⟩ := hS.k7
  have hdl := H7.del hk htk
  have ht24 : ∀ j, j < n → tu j < 2 ^ 24 := fun j hj => Nat.lt_trans (hsb j hj).2 (by decide)
  refine x_aload_n C D_L_law_5.2.2.2.1 rfl rfl (by first | exact Or.inr ⟨_, rfl⟩ | exact va_rf_or _ | exact Or.inl rfl) ?_
  refine x_aload_n C D_L_law_5.2.2.2.2.1 rfl rfl (by first | exact Or.inr ⟨_, rfl⟩ | exact va_rf_or _ | exact Or.inl rfl) ?_
  refine x_iload C D_L_law_5.2.2.2.2.2.1 rfl ?_
  refine x_iconst C (v := nI 1) D_L_law_5.2.2.2.2.2.2.1 (by decide +kernel) ?_
  refine x_iadd C D_L_law_5.2.2.2.2.2.2.2.1 ?_
  first
  | refine x_eqi _ (nI_add _ _) ?_
  | skip
  refine x_sld C hXs hbl hbA _ rfl (by omega) hL D_L_law_5.2.2.2.2.2.2.2.2.1 ?_
  refine x_eqi _ y1 ?_
  refine x_callVz C (y := yX8_remove) (c_X8_removeK l G ow x n m c al sp tu pt pc ps pa r d u g w k hS hk hat hal hcond) (ci := 7) (by assumption) (by decide) rfl rfl k_192 k_193 k_194 k_60 k_195 hd_X8_remove ⟨(Nat.le_of_ble_eq_true rfl), (Nat.le_of_ble_eq_true rfl)⟩ rfl (by first | exact Nat.le_of_ble_eq_true rfl | simp [x_crf, Value.category]) rfl rfl D_L_law_5.2.2.2.2.2.2.2.2.2.1 ⟨Nat.le_trans (Nat.add_le_add_left (Nat.le_of_ble_eq_true rfl : _ ≤ 20) _) (by omega), Nat.le_trans (Nat.add_le_add_left (Nat.le_of_ble_eq_true rfl : _ ≤ 400) _) (by omega)⟩ (fun r_242 S_242 h_242 => ?_)
  refine x_widen (k' := k0 + 20) (n' := n0 + 400) (Nat.add_le_add_left (Nat.le_of_ble_eq_true rfl) _) (Nat.add_le_add_left (Nat.le_of_ble_eq_true rfl) _) ?_
  obtain ⟨rfl, ow1, hF1, hS1⟩ := h_242
  obtain ⟨K1, N1, I1, Q1, J1⟩ := S_242
  have hM1 := hM.agree hF1
  have hO1 := hF1.o hO
  have hm1 : K1 mm = 9 := hM1.1.1
  have m1d : I1 mm 1 = d := hM1.2.2.2.2.1
  have m1r : I1 mm 2 = r := hM1.2.2.2.2.2.1
  have m1u : I1 mm 3 = u := hM1.2.2.2.2.2.2.1
  have m1g : I1 mm 4 = g := hM1.2.2.2.2.2.2.2.1
  have m1w : I1 mm 11 = w := hM1.2.2.2.2.2.2.2.2
  refine x_aload_n C D_L_law_5.2.2.2.2.2.2.2.2.2.2.1 rfl rfl (by first | exact Or.inr ⟨_, rfl⟩ | exact va_rf_or _ | exact Or.inl rfl) ?_
  refine x_aload_n C D_L_law_5.2.2.2.2.2.2.2.2.2.2.2 rfl rfl (by first | exact Or.inr ⟨_, rfl⟩ | exact va_rf_or _ | exact Or.inl rfl) ?_
  refine x_iload C D_L_law_6.1 rfl ?_
  refine x_iconst C (v := nI 1) D_L_law_6.2.1 (by decide +kernel) ?_
  refine x_iadd C D_L_law_6.2.2.1 ?_
  first
  | refine x_eqi _ (nI_add _ _) ?_
  | skip
  refine x_sld C hXs hbl hbA _ rfl (by omega) hL D_L_law_6.2.2.2.1 ?_
  refine x_eqi _ y1 ?_
  refine x_callVz C (y := yX9_remove) (c_X9_removeK l G mm n ar c sp tu pt al (cv1 (c k)) k hM1.1 hM1.2.1 (KV_some hM1.2.1 hUP hcb hk) hal ht24 htk hdl.1 hcond) (ci := 8) hm1 (by decide) rfl rfl k_1046 k_1047 k_1048 k_67 k_1049 hd_X9_remove ⟨(Nat.le_of_ble_eq_true rfl), (Nat.le_of_ble_eq_true rfl)⟩ rfl (by first | exact Nat.le_of_ble_eq_true rfl | simp [x_crf, Value.category]) rfl rfl D_L_law_6.2.2.2.2.1 ⟨Nat.le_trans (Nat.add_le_add_left (Nat.le_of_ble_eq_true rfl : _ ≤ 20) _) (by omega), Nat.le_trans (Nat.add_le_add_left (Nat.le_of_ble_eq_true rfl : _ ≤ 400) _) (by omega)⟩ (fun r_252 S_252 h_252 => ?_)
  refine x_widen (k' := k0 + 20 + 20) (n' := n0 + 400 + 400) (Nat.add_le_add_left (Nat.le_of_ble_eq_true rfl) _) (Nat.add_le_add_left (Nat.le_of_ble_eq_true rfl) _) ?_
  obtain ⟨rfl, I2, rfl, kv2, fr2, e18, e3, hj2⟩ := h_252
  refine x_icmp_eq C 1254 D_L_law_6.2.2.2.2.2.1 (by decide) (fun c_255 => ?_) (fun c_255 => ?_)
  · skip
    exact x_drop9 (x_widen (by omega) (by omega) (kk _ _ (INV.mk (hS1.fr9 (fr9_keys hM1 fr2)) (hM1.keys kv2 fr2 (hj2 10 (by omega) (by omega)) (hj2 11 (by omega) (by omega)) ((hj2 1 (by omega) (by omega)).trans m1d) ((hj2 2 (by omega) (by omega)).trans m1r) (e3.trans (congrArg (fun z => z + _) m1u)) ((hj2 4 (by omega) (by omega)).trans m1g)) hO1 (hB.remK hk hal hcond hdl.2))))
  · skip
    exact absurd rfl c_255
    --end
set_option maxHeartbeats 4000000 in
set_option maxRecDepth 100000 in
theorem lc_removeD {p : Program} {l : Launch} {ee : Env} {s : State} {mi : MethodId} {args : Array Value} {below : List Frame} {meth : Method} {cd : Code} {G : xG} {Z : State → Prop} {rt : Option FieldType} {k0 n0 bs L i x mm o : Nat} {xs : Nat → Int32} {K N : Nat → Nat} {I : Nat → Nat → Int32} {Q : Nat → Nat → Option Nat} {J : Nat → Nat → Int64} {ow : xO} {n : Nat} {c : Nat → Nat} {al : Nat → Bool} {sp tu pt : Nat → Nat} {m : Nat} {pc : Nat → Nat} {pa : Nat → Bool} {ps : Nat → Nat} {r d u g w : Int32} {ar : Nat → Nat} (C : XC p s mi args meth cd code 9 RL rt G) (hX : gX G s s.heap) (hlt : l.stackTraces = false) (hXs : va_X bs L xs s s.heap) (hbl : bs < s.heap.size) (hbA : ¬ gA G bs) (hi : i + 5 ≤ L) (hL : L ≤ 2560) (hk0 : k0 + 100 ≤ room_1.cells) (hn0 : n0 + 2000 ≤ room_1.slots) (hS : SY ow (K, N, I, Q, J) x n c al sp tu pt m pc pa ps r d u g w) (hM : KM ow (K, N, I, Q, J) mm ar n c al sp tu pt m pc pa ps r d u g w) (hO : K o = 24 ∧ N o = 1 ∧ ow o = 10) (hB : BNm n al tu m pa) (k : Nat) (hk : k < n) (y1 : xs (i + 1) = cv1 (c k)) (hal : al k = true) (hcond : cn (x_up al k false) n < n - cn (x_up al k false) n) (kk : ∀ (ow1 : xO) (S1 : xS), INV ow1 S1 x mm o → XW p l ee room_1 s mi args below meth cd G Z (k0 + 100) (n0 + 2000) S1 1254 [some (.ref bs), some (.ref x), some (.ref mm), some (.ref o), some (.int (nI i)), none, none, none, none] []) : XW p l ee room_1 s mi args below meth cd G Z k0 n0 (K, N, I, Q, J) 235 [some (.ref bs), some (.ref x), some (.ref mm), some (.ref o), some (.int (nI i)), none, none, none, none] [] := by
  obtain ⟨hKB, hPB, hUP, hPI, hn2, hcb, hm2, hsb, hx⟩ := hS.kb
  have hx : K x = 8 := hx
  have hmm : K mm = 9 := hM.1.1
  have ht30 : ∀ i, i < n → tu i < 2 ^ 30 := fun i hi => Nat.lt_trans (hsb i hi).2 (by decide)
  have hs30 : ∀ i, i < n → sp i < 2 ^ 30 := fun i hi => Nat.lt_trans (hsb i hi).1 (by decide)
  have hp30 : ∀ i, i < m → ps i < 2 ^ 30 := fun i hi => Nat.lt_trans (hPB i hi).2.2 (by decide)
  have hat : ∀ j, j < n → (al j = true ↔ 0 < tu j) := hB.2.2.1
  have htk : 0 < tu k := (hat k hk).mp hal
  obtain ⟨⟨t7, H7⟩, ⟨t1, H1⟩, ⟨t5, H5⟩⟩ := hS.k7
  have hdl := H7.del hk htk
  have ht24 : ∀ j, j < n → tu j < 2 ^ 24 := fun j hj => Nat.lt_trans (hsb j hj).2 (by decide)
  refine x_aload_n C D_L_law_5.2.2.2.1 rfl rfl (by first | exact Or.inr ⟨_, rfl⟩ | exact va_rf_or _ | exact Or.inl rfl) ?_
  refine x_aload_n C D_L_law_5.2.2.2.2.1 rfl rfl (by first | exact Or.inr ⟨_, rfl⟩ | exact va_rf_or _ | exact Or.inl rfl) ?_
  refine x_iload C D_L_law_5.2.2.2.2.2.1 rfl ?_
  refine x_iconst C (v := nI 1) D_L_law_5.2.2.2.2.2.2.1 (by decide +kernel) ?_
  refine x_iadd C D_L_law_5.2.2.2.2.2.2.2.1 ?_
  first
  | refine x_eqi _ (nI_add _ _) ?_
  | skip
  refine x_sld C hXs hbl hbA _ rfl (by omega) hL D_L_law_5.2.2.2.2.2.2.2.2.1 ?_
  refine x_eqi _ y1 ?_
  refine x_callVz C (y := yX8_remove) (c_X8_removeD l G ow x n m c al sp tu pt pc ps pa r d u g w k hS hk hat hal hcond) (ci := 7) (by assumption) (by decide) rfl rfl k_192 k_193 k_194 k_60 k_195 hd_X8_remove ⟨(Nat.le_of_ble_eq_true rfl), (Nat.le_of_ble_eq_true rfl)⟩ rfl (by first | exact Nat.le_of_ble_eq_true rfl | simp [x_crf, Value.category]) rfl rfl D_L_law_5.2.2.2.2.2.2.2.2.2.1 ⟨Nat.le_trans (Nat.add_le_add_left (Nat.le_of_ble_eq_true rfl : _ ≤ 20) _) (by omega), Nat.le_trans (Nat.add_le_add_left (Nat.le_of_ble_eq_true rfl : _ ≤ 400) _) (by omega)⟩ (fun r_242 S_242 h_242 => ?_)
  refine x_widen (k' := k0 + 20) (n' := n0 + 400) (Nat.add_le_add_left (Nat.le_of_ble_eq_true rfl) _) (Nat.add_le_add_left (Nat.le_of_ble_eq_true rfl) _) ?_
  obtain ⟨rfl, ow1, hF1, hS1⟩ := h_242
  obtain ⟨K1, N1, I1, Q1, J1⟩ := S_242
  have hM1 := hM.agree hF1
  have hO1 := hF1.o hO
  have hm1 : K1 mm = 9 := hM1.1.1
  have m1d : I1 mm 1 = d := hM1.2.2.2.2.1
  have m1r : I1 mm 2 = r := hM1.2.2.2.2.2.1
  have m1u : I1 mm 3 = u := hM1.2.2.2.2.2.2.1
  have m1g : I1 mm 4 = g := hM1.2.2.2.2.2.2.2.1
  have m1w : I1 mm 11 = w := hM1.2.2.2.2.2.2.2.2
  refine x_aload_n C D_L_law_5.2.2.2.2.2.2.2.2.2.2.1 rfl rfl (by first | exact Or.inr ⟨_, rfl⟩ | exact va_rf_or _ | exact Or.inl rfl) ?_
  refine x_aload_n C D_L_law_5.2.2.2.2.2.2.2.2.2.2.2 rfl rfl (by first | exact Or.inr ⟨_, rfl⟩ | exact va_rf_or _ | exact Or.inl rfl) ?_
  refine x_iload C D_L_law_6.1 rfl ?_
  refine x_iconst C (v := nI 1) D_L_law_6.2.1 (by decide +kernel) ?_
  refine x_iadd C D_L_law_6.2.2.1 ?_
  first
  | refine x_eqi _ (nI_add _ _) ?_
  | skip
  refine x_sld C hXs hbl hbA _ rfl (by omega) hL D_L_law_6.2.2.2.1 ?_
  refine x_eqi _ y1 ?_
  refine x_callVz C (y := yX9_remove) (c_X9_removeD l G mm n ar c sp tu pt al (cv1 (c k)) k hM1.1 hM1.2.1 (KV_some hM1.2.1 hUP hcb hk) hal ht24 htk hdl.1 hcond) (ci := 8) hm1 (by decide) rfl rfl k_1046 k_1047 k_1048 k_67 k_1049 hd_X9_remove ⟨(Nat.le_of_ble_eq_true rfl), (Nat.le_of_ble_eq_true rfl)⟩ rfl (by first | exact Nat.le_of_ble_eq_true rfl | simp [x_crf, Value.category]) rfl rfl D_L_law_6.2.2.2.2.1 ⟨Nat.le_trans (Nat.add_le_add_left (Nat.le_of_ble_eq_true rfl : _ ≤ 20) _) (by omega), Nat.le_trans (Nat.add_le_add_left (Nat.le_of_ble_eq_true rfl : _ ≤ 400) _) (by omega)⟩ (fun r_252 S_252 h_252 => ?_)
  refine x_widen (k' := k0 + 20 + 20) (n' := n0 + 400 + 400) (Nat.add_le_add_left (Nat.le_of_ble_eq_true rfl) _) (Nat.add_le_add_left (Nat.le_of_ble_eq_true rfl) _) ?_
  obtain ⟨rfl, I2, rfl, kv2, fr2, e18, e3, e1, hj2⟩ := h_252
  refine x_icmp_eq C 1254 D_L_law_6.2.2.2.2.2.1 (by decide) (fun c_255 => ?_) (fun c_255 => ?_)
  · skip
    exact x_drop9 (x_widen (by omega) (by omega) (kk _ _ (INV.mk (hS1.fr9 (fr9_keys hM1 fr2)) (hM1.keys kv2 fr2 (hj2 10 (by omega) (by omega) (by omega) (by omega)) (hj2 11 (by omega) (by omega) (by omega) (by omega)) (e1.trans (congrArg (fun z => z + _) m1d)) ((hj2 2 (by omega) (by omega) (by omega) (by omega)).trans m1r) (e3.trans (congrArg (fun z => z + _) m1u)) ((hj2 4 (by omega) (by omega) (by omega) (by omega)).trans m1g)) hO1 (hB.remD hk hal hdl.2))))
  · skip
    exact absurd rfl c_255
    --end
