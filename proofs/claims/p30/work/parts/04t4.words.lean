/-! the same, 2: words and links -/
/-- what a callee must be backed by -/
def CF (y : Nat) : Prop := Cond.code (yn y) (cb y) (mtb y).1 (rt y) ∈ wsG ∧ Cond.initialized (yn y).cls ∈ wsG ∧ (if stc y = true then Cond.static (yn y) ∈ wsG else (Cond.instanceMethod (yn y) ∈ wsG ∧ ((yn y).name ≠ "<init>" → Cond.selects (yn y).cls (yn y) (yn y) ∈ wsG)))
theorem cf_1 : CF 1 := ⟨inT 27 (by decide +kernel) (by decide +kernel), inT 2 (by decide +kernel) (by decide +kernel), ⟨inT 26 (by decide +kernel) (by decide +kernel), fun z => absurd rfl z⟩⟩
theorem cf_2 : CF 2 := ⟨inT 464 (by decide +kernel) (by decide +kernel), inT 2 (by decide +kernel) (by decide +kernel), ⟨inT 462 (by decide +kernel) (by decide +kernel), fun _ => inT 463 (by decide +kernel) (by decide +kernel)⟩⟩
theorem cf_3 : CF 3 := ⟨inT 341 (by decide +kernel) (by decide +kernel), inT 2 (by decide +kernel) (by decide +kernel), ⟨inT 339 (by decide +kernel) (by decide +kernel), fun _ => inT 340 (by decide +kernel) (by decide +kernel)⟩⟩
theorem cf_4 : CF 4 := ⟨inT 337 (by decide +kernel) (by decide +kernel), inT 2 (by decide +kernel) (by decide +kernel), ⟨inT 335 (by decide +kernel) (by decide +kernel), fun _ => inT 336 (by decide +kernel) (by decide +kernel)⟩⟩
theorem cf_5 : CF 5 := ⟨inT 541 (by decide +kernel) (by decide +kernel), inT 2 (by decide +kernel) (by decide +kernel), ⟨inT 539 (by decide +kernel) (by decide +kernel), fun _ => inT 540 (by decide +kernel) (by decide +kernel)⟩⟩
theorem cf_6 : CF 6 := ⟨inT 510 (by decide +kernel) (by decide +kernel), inT 2 (by decide +kernel) (by decide +kernel), ⟨inT 508 (by decide +kernel) (by decide +kernel), fun _ => inT 509 (by decide +kernel) (by decide +kernel)⟩⟩
theorem cf_7 : CF 7 := ⟨inT 608 (by decide +kernel) (by decide +kernel), inT 2 (by decide +kernel) (by decide +kernel), ⟨inT 606 (by decide +kernel) (by decide +kernel), fun _ => inT 607 (by decide +kernel) (by decide +kernel)⟩⟩
theorem cf_8 : CF 8 := ⟨inT 522 (by decide +kernel) (by decide +kernel), inT 2 (by decide +kernel) (by decide +kernel), ⟨inT 520 (by decide +kernel) (by decide +kernel), fun _ => inT 521 (by decide +kernel) (by decide +kernel)⟩⟩
theorem cf_9 : CF 9 := ⟨inT 419 (by decide +kernel) (by decide +kernel), inT 2 (by decide +kernel) (by decide +kernel), ⟨inT 417 (by decide +kernel) (by decide +kernel), fun _ => inT 418 (by decide +kernel) (by decide +kernel)⟩⟩
theorem cf_10 : CF 10 := ⟨inT 631 (by decide +kernel) (by decide +kernel), inT 2 (by decide +kernel) (by decide +kernel), ⟨inT 629 (by decide +kernel) (by decide +kernel), fun _ => inT 630 (by decide +kernel) (by decide +kernel)⟩⟩
theorem cf_11 : CF 11 := ⟨inT 526 (by decide +kernel) (by decide +kernel), inT 2 (by decide +kernel) (by decide +kernel), ⟨inT 524 (by decide +kernel) (by decide +kernel), fun _ => inT 525 (by decide +kernel) (by decide +kernel)⟩⟩
theorem cf_12 : CF 12 := ⟨inT 684 (by decide +kernel) (by decide +kernel), inT 2 (by decide +kernel) (by decide +kernel), ⟨inT 682 (by decide +kernel) (by decide +kernel), fun _ => inT 683 (by decide +kernel) (by decide +kernel)⟩⟩
theorem cf_13 : CF 13 := ⟨inT 545 (by decide +kernel) (by decide +kernel), inT 2 (by decide +kernel) (by decide +kernel), ⟨inT 544 (by decide +kernel) (by decide +kernel), fun _ => inP 9 (by decide +kernel) (by decide +kernel)⟩⟩
theorem cf_101 : CF 101 := ⟨inT 173 (by decide +kernel) (by decide +kernel), inT 7 (by decide +kernel) (by decide +kernel), ⟨inT 172 (by decide +kernel) (by decide +kernel), fun z => absurd rfl z⟩⟩
theorem cf_102 : CF 102 := ⟨inT 530 (by decide +kernel) (by decide +kernel), inT 7 (by decide +kernel) (by decide +kernel), ⟨inT 528 (by decide +kernel) (by decide +kernel), fun _ => inT 529 (by decide +kernel) (by decide +kernel)⟩⟩
theorem cf_103 : CF 103 := ⟨inT 534 (by decide +kernel) (by decide +kernel), inT 7 (by decide +kernel) (by decide +kernel), ⟨inT 533 (by decide +kernel) (by decide +kernel), fun _ => inP 8 (by decide +kernel) (by decide +kernel)⟩⟩
theorem cf_104 : CF 104 := ⟨inT 640 (by decide +kernel) (by decide +kernel), inT 7 (by decide +kernel) (by decide +kernel), ⟨inT 638 (by decide +kernel) (by decide +kernel), fun _ => inT 639 (by decide +kernel) (by decide +kernel)⟩⟩
theorem cf_201 : CF 201 := ⟨inT 70 (by decide +kernel) (by decide +kernel), inT 6 (by decide +kernel) (by decide +kernel), ⟨inT 69 (by decide +kernel) (by decide +kernel), fun z => absurd rfl z⟩⟩
theorem cf_202 : CF 202 := ⟨inT 479 (by decide +kernel) (by decide +kernel), inT 6 (by decide +kernel) (by decide +kernel), ⟨inT 477 (by decide +kernel) (by decide +kernel), fun _ => inT 478 (by decide +kernel) (by decide +kernel)⟩⟩
theorem cf_203 : CF 203 := ⟨inT 469 (by decide +kernel) (by decide +kernel), inT 6 (by decide +kernel) (by decide +kernel), ⟨inT 467 (by decide +kernel) (by decide +kernel), fun _ => inT 468 (by decide +kernel) (by decide +kernel)⟩⟩
theorem cf_204 : CF 204 := ⟨inT 497 (by decide +kernel) (by decide +kernel), inT 6 (by decide +kernel) (by decide +kernel), ⟨inT 495 (by decide +kernel) (by decide +kernel), fun _ => inT 496 (by decide +kernel) (by decide +kernel)⟩⟩
theorem cf_205 : CF 205 := ⟨inT 502 (by decide +kernel) (by decide +kernel), inT 6 (by decide +kernel) (by decide +kernel), ⟨inT 501 (by decide +kernel) (by decide +kernel), fun _ => inP 6 (by decide +kernel) (by decide +kernel)⟩⟩
theorem cf_206 : CF 206 := ⟨inT 514 (by decide +kernel) (by decide +kernel), inT 6 (by decide +kernel) (by decide +kernel), ⟨inT 512 (by decide +kernel) (by decide +kernel), fun _ => inT 513 (by decide +kernel) (by decide +kernel)⟩⟩
theorem cf_207 : CF 207 := ⟨inT 492 (by decide +kernel) (by decide +kernel), inT 6 (by decide +kernel) (by decide +kernel), ⟨inT 490 (by decide +kernel) (by decide +kernel), fun _ => inT 491 (by decide +kernel) (by decide +kernel)⟩⟩
theorem cf_208 : CF 208 := ⟨inT 506 (by decide +kernel) (by decide +kernel), inT 6 (by decide +kernel) (by decide +kernel), ⟨inT 505 (by decide +kernel) (by decide +kernel), fun _ => inP 7 (by decide +kernel) (by decide +kernel)⟩⟩
theorem cf_209 : CF 209 := ⟨inT 396 (by decide +kernel) (by decide +kernel), inT 6 (by decide +kernel) (by decide +kernel), ⟨inT 394 (by decide +kernel) (by decide +kernel), fun _ => inT 395 (by decide +kernel) (by decide +kernel)⟩⟩
theorem cf_210 : CF 210 := ⟨inT 379 (by decide +kernel) (by decide +kernel), inT 6 (by decide +kernel) (by decide +kernel), ⟨inT 377 (by decide +kernel) (by decide +kernel), fun _ => inT 378 (by decide +kernel) (by decide +kernel)⟩⟩
theorem cf_212 : CF 212 := ⟨inT 402 (by decide +kernel) (by decide +kernel), inT 6 (by decide +kernel) (by decide +kernel), ⟨inT 400 (by decide +kernel) (by decide +kernel), fun _ => inT 401 (by decide +kernel) (by decide +kernel)⟩⟩
theorem cf_213 : CF 213 := ⟨inT 549 (by decide +kernel) (by decide +kernel), inT 6 (by decide +kernel) (by decide +kernel), ⟨inT 547 (by decide +kernel) (by decide +kernel), fun _ => inT 548 (by decide +kernel) (by decide +kernel)⟩⟩
theorem cf_214 : CF 214 := ⟨inT 383 (by decide +kernel) (by decide +kernel), inT 6 (by decide +kernel) (by decide +kernel), ⟨inT 381 (by decide +kernel) (by decide +kernel), fun _ => inT 382 (by decide +kernel) (by decide +kernel)⟩⟩
theorem cf_215 : CF 215 := ⟨inT 392 (by decide +kernel) (by decide +kernel), inT 6 (by decide +kernel) (by decide +kernel), ⟨inT 390 (by decide +kernel) (by decide +kernel), fun _ => inT 391 (by decide +kernel) (by decide +kernel)⟩⟩
theorem cf_301 : CF 301 := ⟨inT 241 (by decide +kernel) (by decide +kernel), inT 10 (by decide +kernel) (by decide +kernel), ⟨inT 240 (by decide +kernel) (by decide +kernel), fun z => absurd rfl z⟩⟩
theorem cf_302 : CF 302 := ⟨inT 589 (by decide +kernel) (by decide +kernel), inT 10 (by decide +kernel) (by decide +kernel), ⟨inT 587 (by decide +kernel) (by decide +kernel), fun _ => inT 588 (by decide +kernel) (by decide +kernel)⟩⟩
theorem cf_303 : CF 303 := ⟨inT 593 (by decide +kernel) (by decide +kernel), inT 10 (by decide +kernel) (by decide +kernel), ⟨inT 592 (by decide +kernel) (by decide +kernel), fun _ => inP 11 (by decide +kernel) (by decide +kernel)⟩⟩
theorem cf_305 : CF 305 := ⟨inT 583 (by decide +kernel) (by decide +kernel), inT 10 (by decide +kernel) (by decide +kernel), ⟨inT 581 (by decide +kernel) (by decide +kernel), fun _ => inT 582 (by decide +kernel) (by decide +kernel)⟩⟩
theorem cf_306 : CF 306 := ⟨inT 600 (by decide +kernel) (by decide +kernel), inT 10 (by decide +kernel) (by decide +kernel), ⟨inT 599 (by decide +kernel) (by decide +kernel), fun _ => inP 12 (by decide +kernel) (by decide +kernel)⟩⟩
theorem cf_401 : CF 401 := ⟨inT 33 (by decide +kernel) (by decide +kernel), inT 3 (by decide +kernel) (by decide +kernel), ⟨inT 32 (by decide +kernel) (by decide +kernel), fun z => absurd rfl z⟩⟩
theorem cf_402 : CF 402 := ⟨inT 353 (by decide +kernel) (by decide +kernel), inT 3 (by decide +kernel) (by decide +kernel), ⟨inT 351 (by decide +kernel) (by decide +kernel), fun _ => inT 352 (by decide +kernel) (by decide +kernel)⟩⟩
theorem cf_403 : CF 403 := ⟨inT 135 (by decide +kernel) (by decide +kernel), inT 3 (by decide +kernel) (by decide +kernel), ⟨inT 133 (by decide +kernel) (by decide +kernel), fun _ => inT 134 (by decide +kernel) (by decide +kernel)⟩⟩
theorem cf_404 : CF 404 := ⟨inT 447 (by decide +kernel) (by decide +kernel), inT 3 (by decide +kernel) (by decide +kernel), ⟨inT 445 (by decide +kernel) (by decide +kernel), fun _ => inT 446 (by decide +kernel) (by decide +kernel)⟩⟩
theorem cf_405 : CF 405 := ⟨inT 453 (by decide +kernel) (by decide +kernel), inT 3 (by decide +kernel) (by decide +kernel), ⟨inT 451 (by decide +kernel) (by decide +kernel), fun _ => inT 452 (by decide +kernel) (by decide +kernel)⟩⟩
theorem cf_501 : CF 501 := ⟨inT 47 (by decide +kernel) (by decide +kernel), inT 5 (by decide +kernel) (by decide +kernel), ⟨inT 46 (by decide +kernel) (by decide +kernel), fun z => absurd rfl z⟩⟩
theorem cf_502 : CF 502 := ⟨inT 474 (by decide +kernel) (by decide +kernel), inT 5 (by decide +kernel) (by decide +kernel), ⟨inT 472 (by decide +kernel) (by decide +kernel), fun _ => inT 473 (by decide +kernel) (by decide +kernel)⟩⟩
theorem cf_506 : CF 506 := ⟨inT 345 (by decide +kernel) (by decide +kernel), inT 5 (by decide +kernel) (by decide +kernel), ⟨inT 343 (by decide +kernel) (by decide +kernel), fun _ => inT 344 (by decide +kernel) (by decide +kernel)⟩⟩
theorem cf_507 : CF 507 := ⟨inT 349 (by decide +kernel) (by decide +kernel), inT 5 (by decide +kernel) (by decide +kernel), ⟨inT 348 (by decide +kernel) (by decide +kernel), fun _ => inP 0 (by decide +kernel) (by decide +kernel)⟩⟩
theorem cf_601 : CF 601 := ⟨inT 269 (by decide +kernel) (by decide +kernel), inT 11 (by decide +kernel) (by decide +kernel), ⟨inT 268 (by decide +kernel) (by decide +kernel), fun z => absurd rfl z⟩⟩
theorem cf_701 : CF 701 := ⟨inT 190 (by decide +kernel) (by decide +kernel), inT 8 (by decide +kernel) (by decide +kernel), ⟨inT 189 (by decide +kernel) (by decide +kernel), fun z => absurd rfl z⟩⟩
theorem cf_702 : CF 702 := ⟨inT 429 (by decide +kernel) (by decide +kernel), inT 8 (by decide +kernel) (by decide +kernel), ⟨inT 427 (by decide +kernel) (by decide +kernel), fun _ => inT 428 (by decide +kernel) (by decide +kernel)⟩⟩
theorem cf_703 : CF 703 := ⟨inT 443 (by decide +kernel) (by decide +kernel), inT 8 (by decide +kernel) (by decide +kernel), ⟨inT 442 (by decide +kernel) (by decide +kernel), fun _ => inP 4 (by decide +kernel) (by decide +kernel)⟩⟩
theorem cf_704 : CF 704 := ⟨inT 435 (by decide +kernel) (by decide +kernel), inT 8 (by decide +kernel) (by decide +kernel), ⟨inT 434 (by decide +kernel) (by decide +kernel), fun _ => inP 2 (by decide +kernel) (by decide +kernel)⟩⟩
theorem cf_705 : CF 705 := ⟨inT 439 (by decide +kernel) (by decide +kernel), inT 8 (by decide +kernel) (by decide +kernel), ⟨inT 438 (by decide +kernel) (by decide +kernel), fun _ => inP 3 (by decide +kernel) (by decide +kernel)⟩⟩
theorem cf_801 : CF 801 := ⟨inT 207 (by decide +kernel) (by decide +kernel), inT 9 (by decide +kernel) (by decide +kernel), ⟨inT 206 (by decide +kernel) (by decide +kernel), fun z => absurd rfl z⟩⟩
theorem cf_802 : CF 802 := ⟨inT 415 (by decide +kernel) (by decide +kernel), inT 9 (by decide +kernel) (by decide +kernel), ⟨inT 413 (by decide +kernel) (by decide +kernel), fun _ => inT 414 (by decide +kernel) (by decide +kernel)⟩⟩
theorem cf_803 : CF 803 := ⟨inT 423 (by decide +kernel) (by decide +kernel), inT 9 (by decide +kernel) (by decide +kernel), ⟨inT 422 (by decide +kernel) (by decide +kernel), fun _ => inP 1 (by decide +kernel) (by decide +kernel)⟩⟩
theorem cf_804 : CF 804 := ⟨inT 485 (by decide +kernel) (by decide +kernel), inT 9 (by decide +kernel) (by decide +kernel), ⟨inT 484 (by decide +kernel) (by decide +kernel), fun _ => inP 5 (by decide +kernel) (by decide +kernel)⟩⟩
theorem cf_805 : CF 805 := ⟨inT 518 (by decide +kernel) (by decide +kernel), inT 9 (by decide +kernel) (by decide +kernel), ⟨inT 516 (by decide +kernel) (by decide +kernel), fun _ => inT 517 (by decide +kernel) (by decide +kernel)⟩⟩
theorem cf_806 : CF 806 := ⟨inT 558 (by decide +kernel) (by decide +kernel), inT 9 (by decide +kernel) (by decide +kernel), ⟨inT 556 (by decide +kernel) (by decide +kernel), fun _ => inT 557 (by decide +kernel) (by decide +kernel)⟩⟩
theorem cf_807 : CF 807 := ⟨inT 562 (by decide +kernel) (by decide +kernel), inT 9 (by decide +kernel) (by decide +kernel), ⟨inT 561 (by decide +kernel) (by decide +kernel), fun _ => inP 10 (by decide +kernel) (by decide +kernel)⟩⟩
theorem cf_901 : CF 901 := ⟨inT 19 (by decide +kernel) (by decide +kernel), inT 1 (by decide +kernel) (by decide +kernel), ⟨inT 18 (by decide +kernel) (by decide +kernel), fun z => absurd rfl z⟩⟩
theorem cf_902 : CF 902 := ⟨inT 653 (by decide +kernel) (by decide +kernel), inT 1 (by decide +kernel) (by decide +kernel), ⟨inT 651 (by decide +kernel) (by decide +kernel), fun _ => inT 652 (by decide +kernel) (by decide +kernel)⟩⟩
theorem cf_903 : CF 903 := ⟨inT 672 (by decide +kernel) (by decide +kernel), inT 1 (by decide +kernel) (by decide +kernel), ⟨inT 670 (by decide +kernel) (by decide +kernel), fun _ => inT 671 (by decide +kernel) (by decide +kernel)⟩⟩
theorem cf_904 : CF 904 := ⟨inT 715 (by decide +kernel) (by decide +kernel), inT 1 (by decide +kernel) (by decide +kernel), ⟨inT 713 (by decide +kernel) (by decide +kernel), fun _ => inT 714 (by decide +kernel) (by decide +kernel)⟩⟩
theorem cf_905 : CF 905 := ⟨inT 330 (by decide +kernel) (by decide +kernel), inT 1 (by decide +kernel) (by decide +kernel), ⟨inT 328 (by decide +kernel) (by decide +kernel), fun _ => inT 329 (by decide +kernel) (by decide +kernel)⟩⟩
theorem cf_906 : CF 906 := ⟨inT 691 (by decide +kernel) (by decide +kernel), inT 1 (by decide +kernel) (by decide +kernel), ⟨inT 689 (by decide +kernel) (by decide +kernel), fun _ => inT 690 (by decide +kernel) (by decide +kernel)⟩⟩
theorem cf_909 : CF 909 := ⟨inT 719 (by decide +kernel) (by decide +kernel), inT 1 (by decide +kernel) (by decide +kernel), ⟨inT 717 (by decide +kernel) (by decide +kernel), fun _ => inT 718 (by decide +kernel) (by decide +kernel)⟩⟩
theorem cf_910 : CF 910 := ⟨inT 411 (by decide +kernel) (by decide +kernel), inT 1 (by decide +kernel) (by decide +kernel), ⟨inT 409 (by decide +kernel) (by decide +kernel), fun _ => inT 410 (by decide +kernel) (by decide +kernel)⟩⟩
theorem cf_912 : CF 912 := ⟨inT 553 (by decide +kernel) (by decide +kernel), inT 1 (by decide +kernel) (by decide +kernel), ⟨inT 551 (by decide +kernel) (by decide +kernel), fun _ => inT 552 (by decide +kernel) (by decide +kernel)⟩⟩
theorem cf_913 : CF 913 := ⟨inT 567 (by decide +kernel) (by decide +kernel), inT 1 (by decide +kernel) (by decide +kernel), ⟨inT 565 (by decide +kernel) (by decide +kernel), fun _ => inT 566 (by decide +kernel) (by decide +kernel)⟩⟩
theorem cf_914 : CF 914 := ⟨inT 723 (by decide +kernel) (by decide +kernel), inT 1 (by decide +kernel) (by decide +kernel), ⟨inT 721 (by decide +kernel) (by decide +kernel), fun _ => inT 722 (by decide +kernel) (by decide +kernel)⟩⟩
theorem cf_916 : CF 916 := ⟨inT 579 (by decide +kernel) (by decide +kernel), inT 1 (by decide +kernel) (by decide +kernel), ⟨inT 577 (by decide +kernel) (by decide +kernel), fun _ => inT 578 (by decide +kernel) (by decide +kernel)⟩⟩
theorem cf_917 : CF 917 := ⟨inT 604 (by decide +kernel) (by decide +kernel), inT 1 (by decide +kernel) (by decide +kernel), ⟨inT 602 (by decide +kernel) (by decide +kernel), fun _ => inT 603 (by decide +kernel) (by decide +kernel)⟩⟩
theorem cf_918 : CF 918 := ⟨inT 614 (by decide +kernel) (by decide +kernel), inT 1 (by decide +kernel) (by decide +kernel), ⟨inT 612 (by decide +kernel) (by decide +kernel), fun _ => inT 613 (by decide +kernel) (by decide +kernel)⟩⟩
theorem cf_919 : CF 919 := ⟨inT 701 (by decide +kernel) (by decide +kernel), inT 1 (by decide +kernel) (by decide +kernel), ⟨inT 699 (by decide +kernel) (by decide +kernel), fun _ => inT 700 (by decide +kernel) (by decide +kernel)⟩⟩
theorem cf_920 : CF 920 := ⟨inT 680 (by decide +kernel) (by decide +kernel), inT 1 (by decide +kernel) (by decide +kernel), ⟨inT 678 (by decide +kernel) (by decide +kernel), fun _ => inT 679 (by decide +kernel) (by decide +kernel)⟩⟩
theorem cf_921 : CF 921 := ⟨inT 625 (by decide +kernel) (by decide +kernel), inT 1 (by decide +kernel) (by decide +kernel), ⟨inT 623 (by decide +kernel) (by decide +kernel), fun _ => inT 624 (by decide +kernel) (by decide +kernel)⟩⟩
theorem cf_922 : CF 922 := ⟨inT 636 (by decide +kernel) (by decide +kernel), inT 1 (by decide +kernel) (by decide +kernel), ⟨inT 634 (by decide +kernel) (by decide +kernel), fun _ => inT 635 (by decide +kernel) (by decide +kernel)⟩⟩
theorem cf_929 : CF 929 := ⟨inT 333 (by decide +kernel) (by decide +kernel), inT 1 (by decide +kernel) (by decide +kernel), inT 332 (by decide +kernel) (by decide +kernel)⟩
theorem cf_930 : CF 930 := ⟨inT 405 (by decide +kernel) (by decide +kernel), inT 1 (by decide +kernel) (by decide +kernel), inT 404 (by decide +kernel) (by decide +kernel)⟩
theorem cf_931 : CF 931 := ⟨inT 704 (by decide +kernel) (by decide +kernel), inT 1 (by decide +kernel) (by decide +kernel), inT 703 (by decide +kernel) (by decide +kernel)⟩
theorem cf_932 : CF 932 := ⟨inT 620 (by decide +kernel) (by decide +kernel), inT 1 (by decide +kernel) (by decide +kernel), ⟨inT 619 (by decide +kernel) (by decide +kernel), fun _ => inP 13 (by decide +kernel) (by decide +kernel)⟩⟩
theorem cf_933 : CF 933 := ⟨inT 570 (by decide +kernel) (by decide +kernel), inT 1 (by decide +kernel) (by decide +kernel), inT 569 (by decide +kernel) (by decide +kernel)⟩
theorem cf_1101 : CF 1101 := ⟨inT 359 (by decide +kernel) (by decide +kernel), inT 14 (by decide +kernel) (by decide +kernel), inT 358 (by decide +kernel) (by decide +kernel)⟩
theorem cf_1102 : CF 1102 := ⟨inT 356 (by decide +kernel) (by decide +kernel), inT 14 (by decide +kernel) (by decide +kernel), inT 355 (by decide +kernel) (by decide +kernel)⟩
theorem cf_1103 : CF 1103 := ⟨inT 667 (by decide +kernel) (by decide +kernel), inT 14 (by decide +kernel) (by decide +kernel), inT 666 (by decide +kernel) (by decide +kernel)⟩
theorem cf_1104 : CF 1104 := ⟨inT 388 (by decide +kernel) (by decide +kernel), inT 14 (by decide +kernel) (by decide +kernel), ⟨inT 386 (by decide +kernel) (by decide +kernel), fun _ => inT 387 (by decide +kernel) (by decide +kernel)⟩⟩
theorem cf_1105 : CF 1105 := ⟨inT 375 (by decide +kernel) (by decide +kernel), inT 14 (by decide +kernel) (by decide +kernel), ⟨inT 373 (by decide +kernel) (by decide +kernel), fun _ => inT 374 (by decide +kernel) (by decide +kernel)⟩⟩
theorem cf_1106 : CF 1106 := ⟨inT 658 (by decide +kernel) (by decide +kernel), inT 14 (by decide +kernel) (by decide +kernel), ⟨inT 656 (by decide +kernel) (by decide +kernel), fun _ => inT 657 (by decide +kernel) (by decide +kernel)⟩⟩
theorem cf_1602 : CF 1602 := ⟨inT 643 (by decide +kernel) (by decide +kernel), inT 0 (by decide +kernel) (by decide +kernel), inT 642 (by decide +kernel) (by decide +kernel)⟩
theorem cf_1603 : CF 1603 := ⟨inT 648 (by decide +kernel) (by decide +kernel), inT 0 (by decide +kernel) (by decide +kernel), inT 647 (by decide +kernel) (by decide +kernel)⟩
theorem cf_1604 : CF 1604 := ⟨inT 676 (by decide +kernel) (by decide +kernel), inT 0 (by decide +kernel) (by decide +kernel), inT 675 (by decide +kernel) (by decide +kernel)⟩
theorem cf_1605 : CF 1605 := ⟨inT 687 (by decide +kernel) (by decide +kernel), inT 0 (by decide +kernel) (by decide +kernel), inT 686 (by decide +kernel) (by decide +kernel)⟩
theorem cf_1606 : CF 1606 := ⟨inT 697 (by decide +kernel) (by decide +kernel), inT 0 (by decide +kernel) (by decide +kernel), inT 696 (by decide +kernel) (by decide +kernel)⟩
theorem cf_1607 : CF 1607 := ⟨inT 708 (by decide +kernel) (by decide +kernel), inT 0 (by decide +kernel) (by decide +kernel), inT 707 (by decide +kernel) (by decide +kernel)⟩
theorem cf_1608 : CF 1608 := ⟨inT 711 (by decide +kernel) (by decide +kernel), inT 0 (by decide +kernel) (by decide +kernel), inT 710 (by decide +kernel) (by decide +kernel)⟩
set_option maxRecDepth 100000 in
theorem cf_all : ∀ y, y ∈ mList → y ≠ 1601 → CF y := List.forall_mem_cons.mpr ⟨(fun _ => cf_1), List.forall_mem_cons.mpr ⟨(fun _ => cf_2), List.forall_mem_cons.mpr ⟨(fun _ => cf_3), List.forall_mem_cons.mpr ⟨(fun _ => cf_4), List.forall_mem_cons.mpr ⟨(fun _ => cf_5), List.forall_mem_cons.mpr ⟨(fun _ => cf_6), List.forall_mem_cons.mpr ⟨(fun _ => cf_7), List.forall_mem_cons.mpr ⟨(fun _ => cf_8), List.forall_mem_cons.mpr ⟨(fun _ => cf_9), List.forall_mem_cons.mpr ⟨(fun _ => cf_10), List.forall_mem_cons.mpr ⟨(fun _ => cf_11), List.forall_mem_cons.mpr ⟨(fun _ => cf_12), List.forall_mem_cons.mpr ⟨(fun _ => cf_13), List.forall_mem_cons.mpr ⟨(fun _ => cf_101), List.forall_mem_cons.mpr ⟨(fun _ => cf_102), List.forall_mem_cons.mpr ⟨(fun _ => cf_103), List.forall_mem_cons.mpr ⟨(fun _ => cf_104), List.forall_mem_cons.mpr ⟨(fun _ => cf_201), List.forall_mem_cons.mpr ⟨(fun _ => cf_202), List.forall_mem_cons.mpr ⟨(fun _ => cf_203), List.forall_mem_cons.mpr ⟨(fun _ => cf_204), List.forall_mem_cons.mpr ⟨(fun _ => cf_205), List.forall_mem_cons.mpr ⟨(fun _ => cf_206), List.forall_mem_cons.mpr ⟨(fun _ => cf_207), List.forall_mem_cons.mpr ⟨(fun _ => cf_208), List.forall_mem_cons.mpr ⟨(fun _ => cf_209), List.forall_mem_cons.mpr ⟨(fun _ => cf_210), List.forall_mem_cons.mpr ⟨(fun _ => cf_212), List.forall_mem_cons.mpr ⟨(fun _ => cf_213), List.forall_mem_cons.mpr ⟨(fun _ => cf_214), List.forall_mem_cons.mpr ⟨(fun _ => cf_215), List.forall_mem_cons.mpr ⟨(fun _ => cf_301), List.forall_mem_cons.mpr ⟨(fun _ => cf_302), List.forall_mem_cons.mpr ⟨(fun _ => cf_303), List.forall_mem_cons.mpr ⟨(fun _ => cf_305), List.forall_mem_cons.mpr ⟨(fun _ => cf_306), List.forall_mem_cons.mpr ⟨(fun _ => cf_401), List.forall_mem_cons.mpr ⟨(fun _ => cf_402), List.forall_mem_cons.mpr ⟨(fun _ => cf_403), List.forall_mem_cons.mpr ⟨(fun _ => cf_404), List.forall_mem_cons.mpr ⟨(fun _ => cf_405), List.forall_mem_cons.mpr ⟨(fun _ => cf_501), List.forall_mem_cons.mpr ⟨(fun _ => cf_502), List.forall_mem_cons.mpr ⟨(fun _ => cf_506), List.forall_mem_cons.mpr ⟨(fun _ => cf_507), List.forall_mem_cons.mpr ⟨(fun _ => cf_601), List.forall_mem_cons.mpr ⟨(fun _ => cf_701), List.forall_mem_cons.mpr ⟨(fun _ => cf_702), List.forall_mem_cons.mpr ⟨(fun _ => cf_703), List.forall_mem_cons.mpr ⟨(fun _ => cf_704), List.forall_mem_cons.mpr ⟨(fun _ => cf_705), List.forall_mem_cons.mpr ⟨(fun _ => cf_801), List.forall_mem_cons.mpr ⟨(fun _ => cf_802), List.forall_mem_cons.mpr ⟨(fun _ => cf_803), List.forall_mem_cons.mpr ⟨(fun _ => cf_804), List.forall_mem_cons.mpr ⟨(fun _ => cf_805), List.forall_mem_cons.mpr ⟨(fun _ => cf_806), List.forall_mem_cons.mpr ⟨(fun _ => cf_807), List.forall_mem_cons.mpr ⟨(fun _ => cf_901), List.forall_mem_cons.mpr ⟨(fun _ => cf_902), List.forall_mem_cons.mpr ⟨(fun _ => cf_903), List.forall_mem_cons.mpr ⟨(fun _ => cf_904), List.forall_mem_cons.mpr ⟨(fun _ => cf_905), List.forall_mem_cons.mpr ⟨(fun _ => cf_906), List.forall_mem_cons.mpr ⟨(fun _ => cf_909), List.forall_mem_cons.mpr ⟨(fun _ => cf_910), List.forall_mem_cons.mpr ⟨(fun _ => cf_912), List.forall_mem_cons.mpr ⟨(fun _ => cf_913), List.forall_mem_cons.mpr ⟨(fun _ => cf_914), List.forall_mem_cons.mpr ⟨(fun _ => cf_916), List.forall_mem_cons.mpr ⟨(fun _ => cf_917), List.forall_mem_cons.mpr ⟨(fun _ => cf_918), List.forall_mem_cons.mpr ⟨(fun _ => cf_919), List.forall_mem_cons.mpr ⟨(fun _ => cf_920), List.forall_mem_cons.mpr ⟨(fun _ => cf_921), List.forall_mem_cons.mpr ⟨(fun _ => cf_922), List.forall_mem_cons.mpr ⟨(fun _ => cf_929), List.forall_mem_cons.mpr ⟨(fun _ => cf_930), List.forall_mem_cons.mpr ⟨(fun _ => cf_931), List.forall_mem_cons.mpr ⟨(fun _ => cf_932), List.forall_mem_cons.mpr ⟨(fun _ => cf_933), List.forall_mem_cons.mpr ⟨(fun _ => cf_1101), List.forall_mem_cons.mpr ⟨(fun _ => cf_1102), List.forall_mem_cons.mpr ⟨(fun _ => cf_1103), List.forall_mem_cons.mpr ⟨(fun _ => cf_1104), List.forall_mem_cons.mpr ⟨(fun _ => cf_1105), List.forall_mem_cons.mpr ⟨(fun _ => cf_1106), List.forall_mem_cons.mpr ⟨(fun z => absurd rfl z), List.forall_mem_cons.mpr ⟨(fun _ => cf_1602), List.forall_mem_cons.mpr ⟨(fun _ => cf_1603), List.forall_mem_cons.mpr ⟨(fun _ => cf_1604), List.forall_mem_cons.mpr ⟨(fun _ => cf_1605), List.forall_mem_cons.mpr ⟨(fun _ => cf_1606), List.forall_mem_cons.mpr ⟨(fun _ => cf_1607), List.forall_mem_cons.mpr ⟨(fun _ => cf_1608), fun _ h => absurd h List.not_mem_nil⟩⟩⟩⟩⟩⟩⟩⟩⟩⟩⟩⟩⟩⟩⟩⟩⟩⟩⟩⟩⟩⟩⟩⟩⟩⟩⟩⟩⟩⟩⟩⟩⟩⟩⟩⟩⟩⟩⟩⟩⟩⟩⟩⟩⟩⟩⟩⟩⟩⟩⟩⟩⟩⟩⟩⟩⟩⟩⟩⟩⟩⟩⟩⟩⟩⟩⟩⟩⟩⟩⟩⟩⟩⟩⟩⟩⟩⟩⟩⟩⟩⟩⟩⟩⟩⟩⟩⟩⟩⟩⟩⟩⟩⟩⟩
/-- a method's link -/
def LkM (own : String) (k y : Nat) : Prop := Cond.methodLink own k (yn y) ∈ wsG ∨ ∃ host, Cond.methodLinkNest own k (yn y) host ∈ nestW
def LkA (own : String) (k : Nat) (q : LK) : Prop := match q.1 with
  | 17 => LkM own k q.2.1
  | 18 => LkB own k q.2.1
  | _ => LkD own k q
theorem lk_0_3 : LkA "VineyardBlends$Cellar" 3 (18, 4, 0, 0) := inT 28 (by decide +kernel) (by decide +kernel)
theorem lk_0_9 : LkA "VineyardBlends$Cellar" 9 (11, 4, 1, 0) := ⟨by decide, inT 29 (by decide +kernel) (by decide +kernel), inT 30 (by decide +kernel) (by decide +kernel), inT 3 (by decide +kernel) (by decide +kernel)⟩
theorem lk_0_11 : LkA "VineyardBlends$Cellar" 11 (17, 401, 2, 1) := Or.inl (inT 31 (by decide +kernel) (by decide +kernel))
theorem lk_0_14 : LkA "VineyardBlends$Cellar" 14 (2, 6, 0, 4) := ⟨by decide, 6, rfl, by decide, by decide, rfl, fun _ => ⟨rfl, rfl, fun v hv => by obtain ⟨a, rfl⟩ := hv; exact ⟨rfl, rfl⟩⟩, fun z => absurd rfl z, Or.inl (inT 136 (by decide +kernel) (by decide +kernel))⟩
theorem lk_0_20 : LkA "VineyardBlends$Cellar" 20 (2, 7, 0, 4) := ⟨by decide, 7, rfl, by decide, by decide, rfl, fun _ => ⟨rfl, rfl, fun v hv => by obtain ⟨a, rfl⟩ := hv; exact ⟨rfl, rfl⟩⟩, fun z => absurd rfl z, Or.inl (inT 137 (by decide +kernel) (by decide +kernel))⟩
theorem lk_0_23 : LkA "VineyardBlends$Cellar" 23 (11, 5, 4, 0) := ⟨by decide, inT 43 (by decide +kernel) (by decide +kernel), inT 44 (by decide +kernel) (by decide +kernel), inT 5 (by decide +kernel) (by decide +kernel)⟩
theorem lk_0_25 : LkA "VineyardBlends$Cellar" 25 (17, 501, 1, 1) := Or.inr ⟨"VineyardBlends", List.mem_of_getElem? (i := 0) (by decide +kernel)⟩
theorem lk_0_26 : LkA "VineyardBlends$Cellar" 26 (2, 1, 0, 5) := ⟨by decide, 1, rfl, by decide, by decide, rfl, fun _ => ⟨rfl, rfl, fun v hv => by obtain ⟨a, rfl⟩ := hv; exact ⟨rfl, rfl⟩⟩, fun z => absurd rfl z, Or.inl (inT 139 (by decide +kernel) (by decide +kernel))⟩
theorem lk_0_30 : LkA "VineyardBlends$Cellar" 30 (2, 2, 0, 4) := ⟨by decide, 2, rfl, by decide, by decide, rfl, fun _ => ⟨rfl, rfl, fun v hv => by obtain ⟨a, rfl⟩ := hv; exact ⟨rfl, rfl⟩⟩, fun z => absurd rfl z, Or.inl (inT 141 (by decide +kernel) (by decide +kernel))⟩
theorem lk_0_33 : LkA "VineyardBlends$Cellar" 33 (2, 3, 0, 4) := ⟨by decide, 3, rfl, by decide, by decide, rfl, fun _ => ⟨rfl, rfl, fun v hv => by obtain ⟨a, rfl⟩ := hv; exact ⟨rfl, rfl⟩⟩, fun z => absurd rfl z, Or.inl (inT 145 (by decide +kernel) (by decide +kernel))⟩
theorem lk_0_36 : LkA "VineyardBlends$Cellar" 36 (11, 2, 12, 15) := ⟨by decide, inT 65 (by decide +kernel) (by decide +kernel), inT 67 (by decide +kernel) (by decide +kernel), inT 6 (by decide +kernel) (by decide +kernel)⟩
theorem lk_0_38 : LkA "VineyardBlends$Cellar" 38 (2, 0, 0, 15) := ⟨by decide, 0, rfl, by decide, by decide, rfl, fun _ => ⟨rfl, rfl, fun v hv => by obtain ⟨a, rfl⟩ := hv; exact ⟨rfl, rfl⟩⟩, fun z => absurd rfl z, Or.inl (inT 138 (by decide +kernel) (by decide +kernel))⟩
theorem lk_0_42 : LkA "VineyardBlends$Cellar" 42 (17, 201, 3, 1) := Or.inl (inT 68 (by decide +kernel) (by decide +kernel))
theorem lk_0_45 : LkA "VineyardBlends$Cellar" 45 (17, 403, 3, 1) := Or.inl (inT 132 (by decide +kernel) (by decide +kernel))
theorem lk_0_49 : LkA "VineyardBlends$Cellar" 49 (17, 405, 3, 1) := Or.inl (inT 465 (by decide +kernel) (by decide +kernel))
theorem lk_0_53 : LkA "VineyardBlends$Cellar" 53 (17, 3, 2, 1) := Or.inl (inT 338 (by decide +kernel) (by decide +kernel))
theorem lk_0_57 : LkA "VineyardBlends$Cellar" 57 (17, 203, 2, 1) := Or.inl (inT 466 (by decide +kernel) (by decide +kernel))
theorem lk_0_60 : LkA "VineyardBlends$Cellar" 60 (17, 502, 2, 1) := Or.inl (inT 471 (by decide +kernel) (by decide +kernel))
theorem lk_0_63 : LkA "VineyardBlends$Cellar" 63 (0, 4, 0, 0) := ⟨by decide, 4, rfl, by decide, by decide, rfl, fun z => absurd z (by decide), fun _ => ⟨rfl, rfl⟩, Or.inl (inT 149 (by decide +kernel) (by decide +kernel))⟩
theorem lk_0_67 : LkA "VineyardBlends$Cellar" 67 (0, 5, 0, 0) := ⟨by decide, 5, rfl, by decide, by decide, rfl, fun z => absurd z (by decide), fun _ => ⟨rfl, rfl⟩, Or.inl (inT 150 (by decide +kernel) (by decide +kernel))⟩
theorem lk_0_70 : LkA "VineyardBlends$Cellar" 70 (0, 43, 2, 0) := ⟨by decide, 3, rfl, by decide, by decide, rfl, fun z => absurd z (by decide), fun _ => ⟨rfl, rfl⟩, Or.inr ⟨"VineyardBlends", List.mem_of_getElem? (i := 4) (by decide +kernel)⟩⟩
theorem lk_0_73 : LkA "VineyardBlends$Cellar" 73 (17, 13, 1, 1) := Or.inl (inT 542 (by decide +kernel) (by decide +kernel))
theorem lk_0_77 : LkA "VineyardBlends$Cellar" 77 (17, 213, 3, 1) := Or.inl (inT 546 (by decide +kernel) (by decide +kernel))
theorem lk_0_81 : LkA "VineyardBlends$Cellar" 81 (0, 46, 2, 0) := ⟨by decide, 6, rfl, by decide, by decide, rfl, fun z => absurd z (by decide), fun _ => ⟨rfl, rfl⟩, Or.inr ⟨"VineyardBlends", List.mem_of_getElem? (i := 13) (by decide +kernel)⟩⟩
theorem lk_0_84 : LkA "VineyardBlends$Cellar" 84 (0, 44, 2, 0) := ⟨by decide, 4, rfl, by decide, by decide, rfl, fun z => absurd z (by decide), fun _ => ⟨rfl, rfl⟩, Or.inr ⟨"VineyardBlends", List.mem_of_getElem? (i := 8) (by decide +kernel)⟩⟩
theorem lk_0_87 : LkA "VineyardBlends$Cellar" 87 (0, 45, 2, 0) := ⟨by decide, 5, rfl, by decide, by decide, rfl, fun z => absurd z (by decide), fun _ => ⟨rfl, rfl⟩, Or.inr ⟨"VineyardBlends", List.mem_of_getElem? (i := 11) (by decide +kernel)⟩⟩
theorem lk_0_90 : LkA "VineyardBlends$Cellar" 90 (17, 402, 2, 1) := Or.inl (inT 609 (by decide +kernel) (by decide +kernel))
theorem lk_0_94 : LkA "VineyardBlends$Cellar" 94 (17, 206, 3, 1) := Or.inl (inT 610 (by decide +kernel) (by decide +kernel))
theorem lk_0_98 : LkA "VineyardBlends$Cellar" 98 (0, 50, 2, 0) := ⟨by decide, 10, rfl, by decide, by decide, rfl, fun z => absurd z (by decide), fun _ => ⟨rfl, rfl⟩, Or.inr ⟨"VineyardBlends", List.mem_of_getElem? (i := 22) (by decide +kernel)⟩⟩
theorem lk_0_101 : LkA "VineyardBlends$Cellar" 101 (17, 212, 1, 1) := Or.inl (inT 632 (by decide +kernel) (by decide +kernel))
set_option maxRecDepth 100000 in
theorem lkc_0 : ∀ q ∈ lkT.getD 0 [], LkA (cnX 0) q.1 q.2 := List.forall_mem_cons.mpr ⟨lk_0_3, List.forall_mem_cons.mpr ⟨lk_0_9, List.forall_mem_cons.mpr ⟨lk_0_11, List.forall_mem_cons.mpr ⟨lk_0_14, List.forall_mem_cons.mpr ⟨lk_0_20, List.forall_mem_cons.mpr ⟨lk_0_23, List.forall_mem_cons.mpr ⟨lk_0_25, List.forall_mem_cons.mpr ⟨lk_0_26, List.forall_mem_cons.mpr ⟨lk_0_30, List.forall_mem_cons.mpr ⟨lk_0_33, List.forall_mem_cons.mpr ⟨lk_0_36, List.forall_mem_cons.mpr ⟨lk_0_38, List.forall_mem_cons.mpr ⟨lk_0_42, List.forall_mem_cons.mpr ⟨lk_0_45, List.forall_mem_cons.mpr ⟨lk_0_49, List.forall_mem_cons.mpr ⟨lk_0_53, List.forall_mem_cons.mpr ⟨lk_0_57, List.forall_mem_cons.mpr ⟨lk_0_60, List.forall_mem_cons.mpr ⟨lk_0_63, List.forall_mem_cons.mpr ⟨lk_0_67, List.forall_mem_cons.mpr ⟨lk_0_70, List.forall_mem_cons.mpr ⟨lk_0_73, List.forall_mem_cons.mpr ⟨lk_0_77, List.forall_mem_cons.mpr ⟨lk_0_81, List.forall_mem_cons.mpr ⟨lk_0_84, List.forall_mem_cons.mpr ⟨lk_0_87, List.forall_mem_cons.mpr ⟨lk_0_90, List.forall_mem_cons.mpr ⟨lk_0_94, List.forall_mem_cons.mpr ⟨lk_0_98, List.forall_mem_cons.mpr ⟨lk_0_101, fun _ h => absurd h List.not_mem_nil⟩⟩⟩⟩⟩⟩⟩⟩⟩⟩⟩⟩⟩⟩⟩⟩⟩⟩⟩⟩⟩⟩⟩⟩⟩⟩⟩⟩⟩⟩
theorem lk_1_3 : LkA "VineyardBlends$History" 3 (18, 4, 0, 0) := inT 174 (by decide +kernel) (by decide +kernel)
theorem lk_1_9 : LkA "VineyardBlends$History" 9 (11, 0, 8, 16) := ⟨by decide, inT 175 (by decide +kernel) (by decide +kernel), inT 24 (by decide +kernel) (by decide +kernel), inT 2 (by decide +kernel) (by decide +kernel)⟩
theorem lk_1_11 : LkA "VineyardBlends$History" 11 (2, 20, 1, 16) := ⟨by decide, 0, rfl, by decide, by decide, rfl, fun _ => ⟨rfl, rfl, fun v hv => by obtain ⟨a, rfl⟩ := hv; exact ⟨rfl, rfl⟩⟩, fun z => absurd rfl z, Or.inl (inT 178 (by decide +kernel) (by decide +kernel))⟩
theorem lk_1_17 : LkA "VineyardBlends$History" 17 (17, 1, 1, 1) := Or.inl (inT 177 (by decide +kernel) (by decide +kernel))
theorem lk_1_18 : LkA "VineyardBlends$History" 18 (0, 21, 1, 0) := ⟨by decide, 1, rfl, by decide, by decide, rfl, fun z => absurd z (by decide), fun _ => ⟨rfl, rfl⟩, Or.inl (inT 179 (by decide +kernel) (by decide +kernel))⟩
theorem lk_1_22 : LkA "VineyardBlends$History" 22 (17, 103, 1, 1) := Or.inl (inT 531 (by decide +kernel) (by decide +kernel))
theorem lk_1_25 : LkA "VineyardBlends$History" 25 (17, 2, 2, 1) := Or.inl (inT 535 (by decide +kernel) (by decide +kernel))
set_option maxRecDepth 100000 in
theorem lkc_1 : ∀ q ∈ lkT.getD 1 [], LkA (cnX 1) q.1 q.2 := List.forall_mem_cons.mpr ⟨lk_1_3, List.forall_mem_cons.mpr ⟨lk_1_9, List.forall_mem_cons.mpr ⟨lk_1_11, List.forall_mem_cons.mpr ⟨lk_1_17, List.forall_mem_cons.mpr ⟨lk_1_18, List.forall_mem_cons.mpr ⟨lk_1_22, List.forall_mem_cons.mpr ⟨lk_1_25, fun _ h => absurd h List.not_mem_nil⟩⟩⟩⟩⟩⟩⟩
theorem lk_2_3 : LkA "VineyardBlends$Lot" 3 (18, 4, 0, 0) := inT 71 (by decide +kernel) (by decide +kernel)
theorem lk_2_9 : LkA "VineyardBlends$Lot" 9 (11, 4, 1, 0) := ⟨by decide, inT 72 (by decide +kernel) (by decide +kernel), inT 30 (by decide +kernel) (by decide +kernel), inT 3 (by decide +kernel) (by decide +kernel)⟩
theorem lk_2_11 : LkA "VineyardBlends$Lot" 11 (17, 401, 2, 1) := Or.inl (inT 73 (by decide +kernel) (by decide +kernel))
theorem lk_2_14 : LkA "VineyardBlends$Lot" 14 (2, 42, 2, 4) := ⟨by decide, 2, rfl, by decide, by decide, rfl, fun _ => ⟨rfl, rfl, fun v hv => by obtain ⟨a, rfl⟩ := hv; exact ⟨rfl, rfl⟩⟩, fun z => absurd rfl z, Or.inl (inT 76 (by decide +kernel) (by decide +kernel))⟩
theorem lk_2_20 : LkA "VineyardBlends$Lot" 20 (2, 40, 2, 4) := ⟨by decide, 0, rfl, by decide, by decide, rfl, fun _ => ⟨rfl, rfl, fun v hv => by obtain ⟨a, rfl⟩ := hv; exact ⟨rfl, rfl⟩⟩, fun z => absurd rfl z, Or.inl (inT 74 (by decide +kernel) (by decide +kernel))⟩
theorem lk_2_23 : LkA "VineyardBlends$Lot" 23 (2, 41, 2, 4) := ⟨by decide, 1, rfl, by decide, by decide, rfl, fun _ => ⟨rfl, rfl, fun v hv => by obtain ⟨a, rfl⟩ := hv; exact ⟨rfl, rfl⟩⟩, fun z => absurd rfl z, Or.inl (inT 75 (by decide +kernel) (by decide +kernel))⟩
theorem lk_2_26 : LkA "VineyardBlends$Lot" 26 (0, 43, 2, 0) := ⟨by decide, 3, rfl, by decide, by decide, rfl, fun z => absurd z (by decide), fun _ => ⟨rfl, rfl⟩, Or.inl (inT 79 (by decide +kernel) (by decide +kernel))⟩
theorem lk_2_30 : LkA "VineyardBlends$Lot" 30 (0, 51, 2, 0) := ⟨by decide, 11, rfl, by decide, by decide, rfl, fun z => absurd z (by decide), fun _ => ⟨rfl, rfl⟩, Or.inl (inT 82 (by decide +kernel) (by decide +kernel))⟩
theorem lk_2_33 : LkA "VineyardBlends$Lot" 33 (0, 44, 2, 0) := ⟨by decide, 4, rfl, by decide, by decide, rfl, fun z => absurd z (by decide), fun _ => ⟨rfl, rfl⟩, Or.inl (inT 83 (by decide +kernel) (by decide +kernel))⟩
theorem lk_2_36 : LkA "VineyardBlends$Lot" 36 (0, 45, 2, 0) := ⟨by decide, 5, rfl, by decide, by decide, rfl, fun z => absurd z (by decide), fun _ => ⟨rfl, rfl⟩, Or.inl (inT 87 (by decide +kernel) (by decide +kernel))⟩
theorem lk_2_39 : LkA "VineyardBlends$Lot" 39 (0, 46, 2, 0) := ⟨by decide, 6, rfl, by decide, by decide, rfl, fun z => absurd z (by decide), fun _ => ⟨rfl, rfl⟩, Or.inl (inT 91 (by decide +kernel) (by decide +kernel))⟩
theorem lk_2_42 : LkA "VineyardBlends$Lot" 42 (0, 47, 2, 0) := ⟨by decide, 7, rfl, by decide, by decide, rfl, fun z => absurd z (by decide), fun _ => ⟨rfl, rfl⟩, Or.inl (inT 94 (by decide +kernel) (by decide +kernel))⟩
theorem lk_2_45 : LkA "VineyardBlends$Lot" 45 (0, 48, 2, 0) := ⟨by decide, 8, rfl, by decide, by decide, rfl, fun z => absurd z (by decide), fun _ => ⟨rfl, rfl⟩, Or.inl (inT 97 (by decide +kernel) (by decide +kernel))⟩
theorem lk_2_48 : LkA "VineyardBlends$Lot" 48 (0, 49, 2, 0) := ⟨by decide, 9, rfl, by decide, by decide, rfl, fun z => absurd z (by decide), fun _ => ⟨rfl, rfl⟩, Or.inl (inT 100 (by decide +kernel) (by decide +kernel))⟩
theorem lk_2_51 : LkA "VineyardBlends$Lot" 51 (0, 50, 2, 0) := ⟨by decide, 10, rfl, by decide, by decide, rfl, fun z => absurd z (by decide), fun _ => ⟨rfl, rfl⟩, Or.inl (inT 103 (by decide +kernel) (by decide +kernel))⟩
theorem lk_2_54 : LkA "VineyardBlends$Lot" 54 (17, 403, 3, 1) := Or.inl (inT 480 (by decide +kernel) (by decide +kernel))
theorem lk_2_58 : LkA "VineyardBlends$Lot" 58 (17, 405, 3, 1) := Or.inl (inT 470 (by decide +kernel) (by decide +kernel))
theorem lk_2_62 : LkA "VineyardBlends$Lot" 62 (17, 402, 2, 1) := Or.inl (inT 384 (by decide +kernel) (by decide +kernel))
theorem lk_2_66 : LkA "VineyardBlends$Lot" 66 (17, 214, 2, 1) := Or.inl (inT 380 (by decide +kernel) (by decide +kernel))
theorem lk_2_69 : LkA "VineyardBlends$Lot" 69 (17, 404, 3, 1) := Or.inl (inT 498 (by decide +kernel) (by decide +kernel))
theorem lk_2_72 : LkA "VineyardBlends$Lot" 72 (17, 205, 4, 1) := Or.inl (inT 499 (by decide +kernel) (by decide +kernel))
theorem lk_2_76 : LkA "VineyardBlends$Lot" 76 (17, 702, 5, 1) := Or.inl (inT 493 (by decide +kernel) (by decide +kernel))
theorem lk_2_82 : LkA "VineyardBlends$Lot" 82 (2, 140, 7, 4) := ⟨by decide, 0, rfl, by decide, by decide, rfl, fun _ => ⟨rfl, rfl, fun v hv => by obtain ⟨a, rfl⟩ := hv; exact ⟨rfl, rfl⟩⟩, fun z => absurd rfl z, Or.inr ⟨"VineyardBlends", List.mem_of_getElem? (i := 34) (by decide +kernel)⟩⟩
theorem lk_2_84 : LkA "VineyardBlends$Lot" 84 (17, 208, 2, 1) := Or.inl (inT 503 (by decide +kernel) (by decide +kernel))
theorem lk_2_88 : LkA "VineyardBlends$Lot" 88 (17, 204, 3, 1) := Or.inl (inT 494 (by decide +kernel) (by decide +kernel))
theorem lk_2_91 : LkA "VineyardBlends$Lot" 91 (17, 215, 2, 1) := Or.inl (inT 389 (by decide +kernel) (by decide +kernel))
theorem lk_2_94 : LkA "VineyardBlends$Lot" 94 (8, 3, 0, 0) := fun _ => inT 397 (by decide +kernel) (by decide +kernel)
theorem lk_2_100 : LkA "VineyardBlends$Lot" 100 (8, 4, 0, 0) := fun _ => inT 398 (by decide +kernel) (by decide +kernel)
theorem lk_2_103 : LkA "VineyardBlends$Lot" 103 (17, 1104, 2, 1) := Or.inl (inT 385 (by decide +kernel) (by decide +kernel))
set_option maxRecDepth 100000 in
theorem lkc_2 : ∀ q ∈ lkT.getD 2 [], LkA (cnX 2) q.1 q.2 := List.forall_mem_cons.mpr ⟨lk_2_3, List.forall_mem_cons.mpr ⟨lk_2_9, List.forall_mem_cons.mpr ⟨lk_2_11, List.forall_mem_cons.mpr ⟨lk_2_14, List.forall_mem_cons.mpr ⟨lk_2_20, List.forall_mem_cons.mpr ⟨lk_2_23, List.forall_mem_cons.mpr ⟨lk_2_26, List.forall_mem_cons.mpr ⟨lk_2_30, List.forall_mem_cons.mpr ⟨lk_2_33, List.forall_mem_cons.mpr ⟨lk_2_36, List.forall_mem_cons.mpr ⟨lk_2_39, List.forall_mem_cons.mpr ⟨lk_2_42, List.forall_mem_cons.mpr ⟨lk_2_45, List.forall_mem_cons.mpr ⟨lk_2_48, List.forall_mem_cons.mpr ⟨lk_2_51, List.forall_mem_cons.mpr ⟨lk_2_54, List.forall_mem_cons.mpr ⟨lk_2_58, List.forall_mem_cons.mpr ⟨lk_2_62, List.forall_mem_cons.mpr ⟨lk_2_66, List.forall_mem_cons.mpr ⟨lk_2_69, List.forall_mem_cons.mpr ⟨lk_2_72, List.forall_mem_cons.mpr ⟨lk_2_76, List.forall_mem_cons.mpr ⟨lk_2_82, List.forall_mem_cons.mpr ⟨lk_2_84, List.forall_mem_cons.mpr ⟨lk_2_88, List.forall_mem_cons.mpr ⟨lk_2_91, List.forall_mem_cons.mpr ⟨lk_2_94, List.forall_mem_cons.mpr ⟨lk_2_100, List.forall_mem_cons.mpr ⟨lk_2_103, fun _ h => absurd h List.not_mem_nil⟩⟩⟩⟩⟩⟩⟩⟩⟩⟩⟩⟩⟩⟩⟩⟩⟩⟩⟩⟩⟩⟩⟩⟩⟩⟩⟩⟩⟩
theorem lk_3_3 : LkA "VineyardBlends$Panel" 3 (18, 4, 0, 0) := inT 242 (by decide +kernel) (by decide +kernel)
theorem lk_3_9 : LkA "VineyardBlends$Panel" 9 (11, 4, 1, 0) := ⟨by decide, inT 243 (by decide +kernel) (by decide +kernel), inT 30 (by decide +kernel) (by decide +kernel), inT 3 (by decide +kernel) (by decide +kernel)⟩
theorem lk_3_11 : LkA "VineyardBlends$Panel" 11 (17, 401, 2, 1) := Or.inl (inT 244 (by decide +kernel) (by decide +kernel))
theorem lk_3_14 : LkA "VineyardBlends$Panel" 14 (2, 60, 3, 4) := ⟨by decide, 0, rfl, by decide, by decide, rfl, fun _ => ⟨rfl, rfl, fun v hv => by obtain ⟨a, rfl⟩ := hv; exact ⟨rfl, rfl⟩⟩, fun z => absurd rfl z, Or.inl (inT 245 (by decide +kernel) (by decide +kernel))⟩
theorem lk_3_20 : LkA "VineyardBlends$Panel" 20 (2, 61, 3, 17) := ⟨by decide, 1, rfl, by decide, by decide, rfl, fun _ => ⟨rfl, rfl, fun v hv => by obtain ⟨a, rfl⟩ := hv; exact ⟨rfl, rfl⟩⟩, fun z => absurd rfl z, Or.inl (inT 246 (by decide +kernel) (by decide +kernel))⟩
theorem lk_3_24 : LkA "VineyardBlends$Panel" 24 (17, 303, 2, 1) := Or.inl (inT 590 (by decide +kernel) (by decide +kernel))
theorem lk_3_28 : LkA "VineyardBlends$Panel" 28 (17, 402, 2, 1) := Or.inl (inT 584 (by decide +kernel) (by decide +kernel))
theorem lk_3_32 : LkA "VineyardBlends$Panel" 32 (0, 62, 3, 0) := ⟨by decide, 2, rfl, by decide, by decide, rfl, fun z => absurd z (by decide), fun _ => ⟨rfl, rfl⟩, Or.inl (inT 247 (by decide +kernel) (by decide +kernel))⟩
theorem lk_3_36 : LkA "VineyardBlends$Panel" 36 (0, 63, 3, 0) := ⟨by decide, 3, rfl, by decide, by decide, rfl, fun z => absurd z (by decide), fun _ => ⟨rfl, rfl⟩, Or.inl (inT 248 (by decide +kernel) (by decide +kernel))⟩
theorem lk_3_39 : LkA "VineyardBlends$Panel" 39 (0, 64, 3, 0) := ⟨by decide, 4, rfl, by decide, by decide, rfl, fun z => absurd z (by decide), fun _ => ⟨rfl, rfl⟩, Or.inl (inT 249 (by decide +kernel) (by decide +kernel))⟩
theorem lk_3_42 : LkA "VineyardBlends$Panel" 42 (2, 42, 2, 4) := ⟨by decide, 2, rfl, by decide, by decide, rfl, fun _ => ⟨rfl, rfl, fun v hv => by obtain ⟨a, rfl⟩ := hv; exact ⟨rfl, rfl⟩⟩, fun z => absurd rfl z, Or.inr ⟨"VineyardBlends", List.mem_of_getElem? (i := 2) (by decide +kernel)⟩⟩
theorem lk_3_47 : LkA "VineyardBlends$Panel" 47 (18, 2, 0, 0) := inT 595 (by decide +kernel) (by decide +kernel)
theorem lk_3_52 : LkA "VineyardBlends$Panel" 52 (3, 65, 3, 0) := ⟨by decide, 5, rfl, by decide, by decide, rfl, fun z => absurd z (by decide), fun _ => ⟨rfl, rfl⟩, Or.inl (inT 250 (by decide +kernel) (by decide +kernel))⟩
theorem lk_3_56 : LkA "VineyardBlends$Panel" 56 (17, 403, 3, 1) := Or.inl (inT 594 (by decide +kernel) (by decide +kernel))
theorem lk_3_62 : LkA "VineyardBlends$Panel" 62 (2, 2, 0, 4) := ⟨by decide, 2, rfl, by decide, by decide, rfl, fun _ => ⟨rfl, rfl, fun v hv => by obtain ⟨a, rfl⟩ := hv; exact ⟨rfl, rfl⟩⟩, fun z => absurd rfl z, Or.inr ⟨"VineyardBlends", List.mem_of_getElem? (i := 25) (by decide +kernel)⟩⟩
theorem lk_3_67 : LkA "VineyardBlends$Panel" 67 (17, 3, 2, 1) := Or.inl (inT 585 (by decide +kernel) (by decide +kernel))
theorem lk_3_71 : LkA "VineyardBlends$Panel" 71 (17, 302, 3, 1) := Or.inl (inT 586 (by decide +kernel) (by decide +kernel))
theorem lk_3_75 : LkA "VineyardBlends$Panel" 75 (14, 3212836864, 0, 0) := inT 596 (by decide +kernel) (by decide +kernel)
theorem lk_3_76 : LkA "VineyardBlends$Panel" 76 (17, 306, 2, 1) := Or.inl (inT 597 (by decide +kernel) (by decide +kernel))
theorem lk_3_79 : LkA "VineyardBlends$Panel" 79 (0, 43, 2, 0) := ⟨by decide, 3, rfl, by decide, by decide, rfl, fun z => absurd z (by decide), fun _ => ⟨rfl, rfl⟩, Or.inr ⟨"VineyardBlends", List.mem_of_getElem? (i := 5) (by decide +kernel)⟩⟩
set_option maxRecDepth 100000 in
theorem lkc_3 : ∀ q ∈ lkT.getD 3 [], LkA (cnX 3) q.1 q.2 := List.forall_mem_cons.mpr ⟨lk_3_3, List.forall_mem_cons.mpr ⟨lk_3_9, List.forall_mem_cons.mpr ⟨lk_3_11, List.forall_mem_cons.mpr ⟨lk_3_14, List.forall_mem_cons.mpr ⟨lk_3_20, List.forall_mem_cons.mpr ⟨lk_3_24, List.forall_mem_cons.mpr ⟨lk_3_28, List.forall_mem_cons.mpr ⟨lk_3_32, List.forall_mem_cons.mpr ⟨lk_3_36, List.forall_mem_cons.mpr ⟨lk_3_39, List.forall_mem_cons.mpr ⟨lk_3_42, List.forall_mem_cons.mpr ⟨lk_3_47, List.forall_mem_cons.mpr ⟨lk_3_52, List.forall_mem_cons.mpr ⟨lk_3_56, List.forall_mem_cons.mpr ⟨lk_3_62, List.forall_mem_cons.mpr ⟨lk_3_67, List.forall_mem_cons.mpr ⟨lk_3_71, List.forall_mem_cons.mpr ⟨lk_3_75, List.forall_mem_cons.mpr ⟨lk_3_76, List.forall_mem_cons.mpr ⟨lk_3_79, fun _ h => absurd h List.not_mem_nil⟩⟩⟩⟩⟩⟩⟩⟩⟩⟩⟩⟩⟩⟩⟩⟩⟩⟩⟩⟩
theorem lk_4_1 : LkA "VineyardBlends$Row" 1 (18, 4, 0, 0) := inT 34 (by decide +kernel) (by decide +kernel)
theorem lk_4_7 : LkA "VineyardBlends$Row" 7 (18, 0, 0, 0) := inT 35 (by decide +kernel) (by decide +kernel)
theorem lk_4_13 : LkA "VineyardBlends$Row" 13 (2, 80, 4, 13) := ⟨by decide, 0, rfl, by decide, by decide, rfl, fun _ => ⟨rfl, rfl, fun v hv => by obtain ⟨a, rfl⟩ := hv; exact ⟨rfl, rfl⟩⟩, fun z => absurd rfl z, Or.inl (inT 38 (by decide +kernel) (by decide +kernel))⟩
theorem lk_4_19 : LkA "VineyardBlends$Row" 19 (17, 402, 2, 1) := Or.inl (inT 448 (by decide +kernel) (by decide +kernel))
theorem lk_4_23 : LkA "VineyardBlends$Row" 23 (17, 403, 3, 1) := Or.inl (inT 449 (by decide +kernel) (by decide +kernel))
theorem lk_4_27 : LkA "VineyardBlends$Row" 27 (18, 1, 0, 0) := inT 454 (by decide +kernel) (by decide +kernel)
theorem lk_4_30 : LkA "VineyardBlends$Row" 30 (18, 3, 0, 0) := inT 457 (by decide +kernel) (by decide +kernel)
set_option maxRecDepth 100000 in
theorem lkc_4 : ∀ q ∈ lkT.getD 4 [], LkA (cnX 4) q.1 q.2 := List.forall_mem_cons.mpr ⟨lk_4_1, List.forall_mem_cons.mpr ⟨lk_4_7, List.forall_mem_cons.mpr ⟨lk_4_13, List.forall_mem_cons.mpr ⟨lk_4_19, List.forall_mem_cons.mpr ⟨lk_4_23, List.forall_mem_cons.mpr ⟨lk_4_27, List.forall_mem_cons.mpr ⟨lk_4_30, fun _ h => absurd h List.not_mem_nil⟩⟩⟩⟩⟩⟩⟩
theorem lk_5_3 : LkA "VineyardBlends$Rules" 3 (18, 4, 0, 0) := inT 48 (by decide +kernel) (by decide +kernel)
theorem lk_5_9 : LkA "VineyardBlends$Rules" 9 (11, 4, 1, 0) := ⟨by decide, inT 49 (by decide +kernel) (by decide +kernel), inT 30 (by decide +kernel) (by decide +kernel), inT 3 (by decide +kernel) (by decide +kernel)⟩
theorem lk_5_11 : LkA "VineyardBlends$Rules" 11 (17, 401, 2, 1) := Or.inl (inT 50 (by decide +kernel) (by decide +kernel))
theorem lk_5_14 : LkA "VineyardBlends$Rules" 14 (2, 100, 5, 4) := ⟨by decide, 0, rfl, by decide, by decide, rfl, fun _ => ⟨rfl, rfl, fun v hv => by obtain ⟨a, rfl⟩ := hv; exact ⟨rfl, rfl⟩⟩, fun z => absurd rfl z, Or.inl (inT 51 (by decide +kernel) (by decide +kernel))⟩
theorem lk_5_20 : LkA "VineyardBlends$Rules" 20 (2, 101, 5, 4) := ⟨by decide, 1, rfl, by decide, by decide, rfl, fun _ => ⟨rfl, rfl, fun v hv => by obtain ⟨a, rfl⟩ := hv; exact ⟨rfl, rfl⟩⟩, fun z => absurd rfl z, Or.inl (inT 52 (by decide +kernel) (by decide +kernel))⟩
theorem lk_5_23 : LkA "VineyardBlends$Rules" 23 (2, 102, 5, 4) := ⟨by decide, 2, rfl, by decide, by decide, rfl, fun _ => ⟨rfl, rfl, fun v hv => by obtain ⟨a, rfl⟩ := hv; exact ⟨rfl, rfl⟩⟩, fun z => absurd rfl z, Or.inl (inT 53 (by decide +kernel) (by decide +kernel))⟩
theorem lk_5_26 : LkA "VineyardBlends$Rules" 26 (0, 103, 5, 0) := ⟨by decide, 3, rfl, by decide, by decide, rfl, fun z => absurd z (by decide), fun _ => ⟨rfl, rfl⟩, Or.inl (inT 54 (by decide +kernel) (by decide +kernel))⟩
theorem lk_5_30 : LkA "VineyardBlends$Rules" 30 (17, 405, 3, 1) := Or.inl (inT 475 (by decide +kernel) (by decide +kernel))
theorem lk_5_38 : LkA "VineyardBlends$Rules" 38 (17, 402, 2, 1) := Or.inl (inT 350 (by decide +kernel) (by decide +kernel))
theorem lk_5_42 : LkA "VineyardBlends$Rules" 42 (17, 507, 3, 1) := Or.inl (inT 346 (by decide +kernel) (by decide +kernel))
theorem lk_5_46 : LkA "VineyardBlends$Rules" 46 (17, 1102, 1, 0) := Or.inl (inT 354 (by decide +kernel) (by decide +kernel))
theorem lk_5_52 : LkA "VineyardBlends$Rules" 52 (17, 1105, 1, 1) := Or.inl (inT 372 (by decide +kernel) (by decide +kernel))
theorem lk_5_56 : LkA "VineyardBlends$Rules" 56 (17, 210, 3, 1) := Or.inl (inT 376 (by decide +kernel) (by decide +kernel))
theorem lk_5_62 : LkA "VineyardBlends$Rules" 62 (17, 209, 2, 1) := Or.inl (inT 393 (by decide +kernel) (by decide +kernel))
theorem lk_5_66 : LkA "VineyardBlends$Rules" 66 (4, 2, 0, 0) := ⟨by decide, Or.inr ⟨"VineyardBlends", List.mem_of_getElem? (i := 43) (by decide +kernel)⟩⟩
set_option maxRecDepth 100000 in
theorem lkc_5 : ∀ q ∈ lkT.getD 5 [], LkA (cnX 5) q.1 q.2 := List.forall_mem_cons.mpr ⟨lk_5_3, List.forall_mem_cons.mpr ⟨lk_5_9, List.forall_mem_cons.mpr ⟨lk_5_11, List.forall_mem_cons.mpr ⟨lk_5_14, List.forall_mem_cons.mpr ⟨lk_5_20, List.forall_mem_cons.mpr ⟨lk_5_23, List.forall_mem_cons.mpr ⟨lk_5_26, List.forall_mem_cons.mpr ⟨lk_5_30, List.forall_mem_cons.mpr ⟨lk_5_38, List.forall_mem_cons.mpr ⟨lk_5_42, List.forall_mem_cons.mpr ⟨lk_5_46, List.forall_mem_cons.mpr ⟨lk_5_52, List.forall_mem_cons.mpr ⟨lk_5_56, List.forall_mem_cons.mpr ⟨lk_5_62, List.forall_mem_cons.mpr ⟨lk_5_66, fun _ h => absurd h List.not_mem_nil⟩⟩⟩⟩⟩⟩⟩⟩⟩⟩⟩⟩⟩⟩⟩
theorem lk_6_3 : LkA "VineyardBlends$Script" 3 (18, 4, 0, 0) := inT 270 (by decide +kernel) (by decide +kernel)
theorem lk_6_9 : LkA "VineyardBlends$Script" 9 (11, 4, 1, 0) := ⟨by decide, inT 271 (by decide +kernel) (by decide +kernel), inT 30 (by decide +kernel) (by decide +kernel), inT 3 (by decide +kernel) (by decide +kernel)⟩
theorem lk_6_11 : LkA "VineyardBlends$Script" 11 (17, 401, 2, 1) := Or.inl (inT 272 (by decide +kernel) (by decide +kernel))
theorem lk_6_14 : LkA "VineyardBlends$Script" 14 (2, 120, 6, 4) := ⟨by decide, 0, rfl, by decide, by decide, rfl, fun _ => ⟨rfl, rfl, fun v hv => by obtain ⟨a, rfl⟩ := hv; exact ⟨rfl, rfl⟩⟩, fun z => absurd rfl z, Or.inl (inT 275 (by decide +kernel) (by decide +kernel))⟩
theorem lk_6_20 : LkA "VineyardBlends$Script" 20 (11, 5, 4, 0) := ⟨by decide, inT 273 (by decide +kernel) (by decide +kernel), inT 44 (by decide +kernel) (by decide +kernel), inT 5 (by decide +kernel) (by decide +kernel)⟩
theorem lk_6_22 : LkA "VineyardBlends$Script" 22 (17, 501, 1, 1) := Or.inr ⟨"VineyardBlends", List.mem_of_getElem? (i := 40) (by decide +kernel)⟩
theorem lk_6_23 : LkA "VineyardBlends$Script" 23 (2, 121, 6, 5) := ⟨by decide, 1, rfl, by decide, by decide, rfl, fun _ => ⟨rfl, rfl, fun v hv => by obtain ⟨a, rfl⟩ := hv; exact ⟨rfl, rfl⟩⟩, fun z => absurd rfl z, Or.inl (inT 276 (by decide +kernel) (by decide +kernel))⟩
set_option maxRecDepth 100000 in
theorem lkc_6 : ∀ q ∈ lkT.getD 6 [], LkA (cnX 6) q.1 q.2 := List.forall_mem_cons.mpr ⟨lk_6_3, List.forall_mem_cons.mpr ⟨lk_6_9, List.forall_mem_cons.mpr ⟨lk_6_11, List.forall_mem_cons.mpr ⟨lk_6_14, List.forall_mem_cons.mpr ⟨lk_6_20, List.forall_mem_cons.mpr ⟨lk_6_22, List.forall_mem_cons.mpr ⟨lk_6_23, fun _ h => absurd h List.not_mem_nil⟩⟩⟩⟩⟩⟩⟩
theorem lk_7_3 : LkA "VineyardBlends$Sharing" 3 (18, 4, 0, 0) := inT 191 (by decide +kernel) (by decide +kernel)
theorem lk_7_9 : LkA "VineyardBlends$Sharing" 9 (11, 4, 1, 0) := ⟨by decide, inT 192 (by decide +kernel) (by decide +kernel), inT 30 (by decide +kernel) (by decide +kernel), inT 3 (by decide +kernel) (by decide +kernel)⟩
theorem lk_7_11 : LkA "VineyardBlends$Sharing" 11 (17, 401, 2, 1) := Or.inl (inT 193 (by decide +kernel) (by decide +kernel))
theorem lk_7_14 : LkA "VineyardBlends$Sharing" 14 (2, 140, 7, 4) := ⟨by decide, 0, rfl, by decide, by decide, rfl, fun _ => ⟨rfl, rfl, fun v hv => by obtain ⟨a, rfl⟩ := hv; exact ⟨rfl, rfl⟩⟩, fun z => absurd rfl z, Or.inl (inT 194 (by decide +kernel) (by decide +kernel))⟩
theorem lk_7_20 : LkA "VineyardBlends$Sharing" 20 (2, 141, 7, 4) := ⟨by decide, 1, rfl, by decide, by decide, rfl, fun _ => ⟨rfl, rfl, fun v hv => by obtain ⟨a, rfl⟩ := hv; exact ⟨rfl, rfl⟩⟩, fun z => absurd rfl z, Or.inl (inT 197 (by decide +kernel) (by decide +kernel))⟩
theorem lk_7_23 : LkA "VineyardBlends$Sharing" 23 (17, 402, 2, 1) := Or.inl (inT 430 (by decide +kernel) (by decide +kernel))
theorem lk_7_27 : LkA "VineyardBlends$Sharing" 27 (17, 403, 3, 1) := Or.inl (inT 431 (by decide +kernel) (by decide +kernel))
theorem lk_7_31 : LkA "VineyardBlends$Sharing" 31 (17, 704, 4, 1) := Or.inl (inT 432 (by decide +kernel) (by decide +kernel))
theorem lk_7_35 : LkA "VineyardBlends$Sharing" 35 (17, 703, 4, 1) := Or.inl (inT 440 (by decide +kernel) (by decide +kernel))
theorem lk_7_39 : LkA "VineyardBlends$Sharing" 39 (17, 705, 3, 1) := Or.inl (inT 436 (by decide +kernel) (by decide +kernel))
theorem lk_7_43 : LkA "VineyardBlends$Sharing" 43 (17, 404, 3, 1) := Or.inl (inT 444 (by decide +kernel) (by decide +kernel))
set_option maxRecDepth 100000 in
theorem lkc_7 : ∀ q ∈ lkT.getD 7 [], LkA (cnX 7) q.1 q.2 := List.forall_mem_cons.mpr ⟨lk_7_3, List.forall_mem_cons.mpr ⟨lk_7_9, List.forall_mem_cons.mpr ⟨lk_7_11, List.forall_mem_cons.mpr ⟨lk_7_14, List.forall_mem_cons.mpr ⟨lk_7_20, List.forall_mem_cons.mpr ⟨lk_7_23, List.forall_mem_cons.mpr ⟨lk_7_27, List.forall_mem_cons.mpr ⟨lk_7_31, List.forall_mem_cons.mpr ⟨lk_7_35, List.forall_mem_cons.mpr ⟨lk_7_39, List.forall_mem_cons.mpr ⟨lk_7_43, fun _ h => absurd h List.not_mem_nil⟩⟩⟩⟩⟩⟩⟩⟩⟩⟩⟩
theorem lk_8_3 : LkA "VineyardBlends$Trial" 3 (18, 4, 0, 0) := inT 208 (by decide +kernel) (by decide +kernel)
theorem lk_8_9 : LkA "VineyardBlends$Trial" 9 (11, 0, 8, 16) := ⟨by decide, inT 209 (by decide +kernel) (by decide +kernel), inT 24 (by decide +kernel) (by decide +kernel), inT 2 (by decide +kernel) (by decide +kernel)⟩
theorem lk_8_11 : LkA "VineyardBlends$Trial" 11 (17, 1, 1, 1) := Or.inl (inT 210 (by decide +kernel) (by decide +kernel))
theorem lk_8_12 : LkA "VineyardBlends$Trial" 12 (2, 160, 8, 0) := ⟨by decide, 0, rfl, by decide, by decide, rfl, fun _ => ⟨rfl, rfl, fun v hv => by obtain ⟨a, rfl⟩ := hv; exact ⟨rfl, rfl⟩⟩, fun z => absurd rfl z, Or.inl (inT 215 (by decide +kernel) (by decide +kernel))⟩
theorem lk_8_18 : LkA "VineyardBlends$Trial" 18 (11, 2, 12, 15) := ⟨by decide, inT 211 (by decide +kernel) (by decide +kernel), inT 67 (by decide +kernel) (by decide +kernel), inT 6 (by decide +kernel) (by decide +kernel)⟩
theorem lk_8_20 : LkA "VineyardBlends$Trial" 20 (11, 4, 1, 0) := ⟨by decide, inT 212 (by decide +kernel) (by decide +kernel), inT 30 (by decide +kernel) (by decide +kernel), inT 3 (by decide +kernel) (by decide +kernel)⟩
theorem lk_8_22 : LkA "VineyardBlends$Trial" 22 (17, 401, 2, 1) := Or.inl (inT 213 (by decide +kernel) (by decide +kernel))
theorem lk_8_25 : LkA "VineyardBlends$Trial" 25 (17, 201, 3, 1) := Or.inl (inT 214 (by decide +kernel) (by decide +kernel))
theorem lk_8_28 : LkA "VineyardBlends$Trial" 28 (2, 161, 8, 2) := ⟨by decide, 1, rfl, by decide, by decide, rfl, fun _ => ⟨rfl, rfl, fun v hv => by obtain ⟨a, rfl⟩ := hv; exact ⟨rfl, rfl⟩⟩, fun z => absurd rfl z, Or.inl (inT 217 (by decide +kernel) (by decide +kernel))⟩
theorem lk_8_32 : LkA "VineyardBlends$Trial" 32 (2, 163, 8, 4) := ⟨by decide, 3, rfl, by decide, by decide, rfl, fun _ => ⟨rfl, rfl, fun v hv => by obtain ⟨a, rfl⟩ := hv; exact ⟨rfl, rfl⟩⟩, fun z => absurd rfl z, Or.inl (inT 220 (by decide +kernel) (by decide +kernel))⟩
theorem lk_8_36 : LkA "VineyardBlends$Trial" 36 (2, 164, 8, 4) := ⟨by decide, 4, rfl, by decide, by decide, rfl, fun _ => ⟨rfl, rfl, fun v hv => by obtain ⟨a, rfl⟩ := hv; exact ⟨rfl, rfl⟩⟩, fun z => absurd rfl z, Or.inl (inT 221 (by decide +kernel) (by decide +kernel))⟩
theorem lk_8_39 : LkA "VineyardBlends$Trial" 39 (2, 162, 8, 7) := ⟨by decide, 2, rfl, by decide, by decide, rfl, fun _ => ⟨rfl, rfl, fun v hv => by obtain ⟨a, rfl⟩ := hv; exact ⟨rfl, rfl⟩⟩, fun z => absurd rfl z, Or.inl (inT 219 (by decide +kernel) (by decide +kernel))⟩
theorem lk_8_43 : LkA "VineyardBlends$Trial" 43 (17, 9, 1, 1) := Or.inl (inT 416 (by decide +kernel) (by decide +kernel))
theorem lk_8_47 : LkA "VineyardBlends$Trial" 47 (17, 803, 3, 1) := Or.inl (inT 420 (by decide +kernel) (by decide +kernel))
theorem lk_8_51 : LkA "VineyardBlends$Trial" 51 (17, 2, 2, 1) := Or.inl (inT 461 (by decide +kernel) (by decide +kernel))
theorem lk_8_55 : LkA "VineyardBlends$Trial" 55 (17, 202, 1, 1) := Or.inl (inT 476 (by decide +kernel) (by decide +kernel))
theorem lk_8_58 : LkA "VineyardBlends$Trial" 58 (8, 3, 0, 0) := fun _ => inT 481 (by decide +kernel) (by decide +kernel)
theorem lk_8_64 : LkA "VineyardBlends$Trial" 64 (17, 804, 3, 1) := Or.inl (inT 482 (by decide +kernel) (by decide +kernel))
theorem lk_8_68 : LkA "VineyardBlends$Trial" 68 (0, 47, 2, 0) := ⟨by decide, 7, rfl, by decide, by decide, rfl, fun z => absurd z (by decide), fun _ => ⟨rfl, rfl⟩, Or.inr ⟨"VineyardBlends", List.mem_of_getElem? (i := 14) (by decide +kernel)⟩⟩
theorem lk_8_72 : LkA "VineyardBlends$Trial" 72 (8, 4, 0, 0) := fun _ => inT 487 (by decide +kernel) (by decide +kernel)
theorem lk_8_75 : LkA "VineyardBlends$Trial" 75 (0, 48, 2, 0) := ⟨by decide, 8, rfl, by decide, by decide, rfl, fun z => absurd z (by decide), fun _ => ⟨rfl, rfl⟩, Or.inr ⟨"VineyardBlends", List.mem_of_getElem? (i := 16) (by decide +kernel)⟩⟩
theorem lk_8_78 : LkA "VineyardBlends$Trial" 78 (8, 5, 0, 0) := fun _ => inT 488 (by decide +kernel) (by decide +kernel)
theorem lk_8_81 : LkA "VineyardBlends$Trial" 81 (0, 49, 2, 0) := ⟨by decide, 9, rfl, by decide, by decide, rfl, fun z => absurd z (by decide), fun _ => ⟨rfl, rfl⟩, Or.inr ⟨"VineyardBlends", List.mem_of_getElem? (i := 18) (by decide +kernel)⟩⟩
theorem lk_8_84 : LkA "VineyardBlends$Trial" 84 (0, 4, 0, 0) := ⟨by decide, 4, rfl, by decide, by decide, rfl, fun z => absurd z (by decide), fun _ => ⟨rfl, rfl⟩, Or.inr ⟨"VineyardBlends", List.mem_of_getElem? (i := 28) (by decide +kernel)⟩⟩
theorem lk_8_87 : LkA "VineyardBlends$Trial" 87 (17, 3, 2, 1) := Or.inl (inT 424 (by decide +kernel) (by decide +kernel))
theorem lk_8_91 : LkA "VineyardBlends$Trial" 91 (17, 402, 2, 1) := Or.inl (inT 460 (by decide +kernel) (by decide +kernel))
theorem lk_8_95 : LkA "VineyardBlends$Trial" 95 (17, 207, 4, 1) := Or.inl (inT 489 (by decide +kernel) (by decide +kernel))
theorem lk_8_99 : LkA "VineyardBlends$Trial" 99 (17, 6, 1, 1) := Or.inl (inT 507 (by decide +kernel) (by decide +kernel))
theorem lk_8_102 : LkA "VineyardBlends$Trial" 102 (2, 2, 0, 4) := ⟨by decide, 2, rfl, by decide, by decide, rfl, fun _ => ⟨rfl, rfl, fun v hv => by obtain ⟨a, rfl⟩ := hv; exact ⟨rfl, rfl⟩⟩, fun z => absurd rfl z, Or.inr ⟨"VineyardBlends", List.mem_of_getElem? (i := 24) (by decide +kernel)⟩⟩
theorem lk_8_105 : LkA "VineyardBlends$Trial" 105 (0, 165, 8, 0) := ⟨by decide, 5, rfl, by decide, by decide, rfl, fun z => absurd z (by decide), fun _ => ⟨rfl, rfl⟩, Or.inl (inT 222 (by decide +kernel) (by decide +kernel))⟩
theorem lk_8_108 : LkA "VineyardBlends$Trial" 108 (17, 206, 3, 1) := Or.inl (inT 511 (by decide +kernel) (by decide +kernel))
theorem lk_8_112 : LkA "VineyardBlends$Trial" 112 (0, 50, 2, 0) := ⟨by decide, 10, rfl, by decide, by decide, rfl, fun z => absurd z (by decide), fun _ => ⟨rfl, rfl⟩, Or.inr ⟨"VineyardBlends", List.mem_of_getElem? (i := 20) (by decide +kernel)⟩⟩
theorem lk_8_115 : LkA "VineyardBlends$Trial" 115 (17, 403, 3, 1) := Or.inl (inT 425 (by decide +kernel) (by decide +kernel))
theorem lk_8_119 : LkA "VineyardBlends$Trial" 119 (17, 702, 5, 1) := Or.inl (inT 426 (by decide +kernel) (by decide +kernel))
theorem lk_8_125 : LkA "VineyardBlends$Trial" 125 (2, 140, 7, 4) := ⟨by decide, 0, rfl, by decide, by decide, rfl, fun _ => ⟨rfl, rfl, fun v hv => by obtain ⟨a, rfl⟩ := hv; exact ⟨rfl, rfl⟩⟩, fun z => absurd rfl z, Or.inr ⟨"VineyardBlends", List.mem_of_getElem? (i := 33) (by decide +kernel)⟩⟩
theorem lk_8_127 : LkA "VineyardBlends$Trial" 127 (17, 405, 3, 1) := Or.inl (inT 450 (by decide +kernel) (by decide +kernel))
theorem lk_8_130 : LkA "VineyardBlends$Trial" 130 (0, 45, 2, 0) := ⟨by decide, 5, rfl, by decide, by decide, rfl, fun z => absurd z (by decide), fun _ => ⟨rfl, rfl⟩, Or.inr ⟨"VineyardBlends", List.mem_of_getElem? (i := 9) (by decide +kernel)⟩⟩
theorem lk_8_133 : LkA "VineyardBlends$Trial" 133 (17, 209, 2, 1) := Or.inl (inT 486 (by decide +kernel) (by decide +kernel))
theorem lk_8_137 : LkA "VineyardBlends$Trial" 137 (17, 8, 2, 1) := Or.inl (inT 519 (by decide +kernel) (by decide +kernel))
theorem lk_8_140 : LkA "VineyardBlends$Trial" 140 (17, 11, 1, 1) := Or.inl (inT 523 (by decide +kernel) (by decide +kernel))
theorem lk_8_143 : LkA "VineyardBlends$Trial" 143 (0, 44, 2, 0) := ⟨by decide, 4, rfl, by decide, by decide, rfl, fun z => absurd z (by decide), fun _ => ⟨rfl, rfl⟩, Or.inr ⟨"VineyardBlends", List.mem_of_getElem? (i := 6) (by decide +kernel)⟩⟩
theorem lk_8_146 : LkA "VineyardBlends$Trial" 146 (17, 807, 2, 1) := Or.inl (inT 559 (by decide +kernel) (by decide +kernel))
theorem lk_8_150 : LkA "VineyardBlends$Trial" 150 (18, 1, 0, 0) := inT 563 (by decide +kernel) (by decide +kernel)
set_option maxRecDepth 100000 in
theorem lkc_8 : ∀ q ∈ lkT.getD 8 [], LkA (cnX 8) q.1 q.2 := List.forall_mem_cons.mpr ⟨lk_8_3, List.forall_mem_cons.mpr ⟨lk_8_9, List.forall_mem_cons.mpr ⟨lk_8_11, List.forall_mem_cons.mpr ⟨lk_8_12, List.forall_mem_cons.mpr ⟨lk_8_18, List.forall_mem_cons.mpr ⟨lk_8_20, List.forall_mem_cons.mpr ⟨lk_8_22, List.forall_mem_cons.mpr ⟨lk_8_25, List.forall_mem_cons.mpr ⟨lk_8_28, List.forall_mem_cons.mpr ⟨lk_8_32, List.forall_mem_cons.mpr ⟨lk_8_36, List.forall_mem_cons.mpr ⟨lk_8_39, List.forall_mem_cons.mpr ⟨lk_8_43, List.forall_mem_cons.mpr ⟨lk_8_47, List.forall_mem_cons.mpr ⟨lk_8_51, List.forall_mem_cons.mpr ⟨lk_8_55, List.forall_mem_cons.mpr ⟨lk_8_58, List.forall_mem_cons.mpr ⟨lk_8_64, List.forall_mem_cons.mpr ⟨lk_8_68, List.forall_mem_cons.mpr ⟨lk_8_72, List.forall_mem_cons.mpr ⟨lk_8_75, List.forall_mem_cons.mpr ⟨lk_8_78, List.forall_mem_cons.mpr ⟨lk_8_81, List.forall_mem_cons.mpr ⟨lk_8_84, List.forall_mem_cons.mpr ⟨lk_8_87, List.forall_mem_cons.mpr ⟨lk_8_91, List.forall_mem_cons.mpr ⟨lk_8_95, List.forall_mem_cons.mpr ⟨lk_8_99, List.forall_mem_cons.mpr ⟨lk_8_102, List.forall_mem_cons.mpr ⟨lk_8_105, List.forall_mem_cons.mpr ⟨lk_8_108, List.forall_mem_cons.mpr ⟨lk_8_112, List.forall_mem_cons.mpr ⟨lk_8_115, List.forall_mem_cons.mpr ⟨lk_8_119, List.forall_mem_cons.mpr ⟨lk_8_125, List.forall_mem_cons.mpr ⟨lk_8_127, List.forall_mem_cons.mpr ⟨lk_8_130, List.forall_mem_cons.mpr ⟨lk_8_133, List.forall_mem_cons.mpr ⟨lk_8_137, List.forall_mem_cons.mpr ⟨lk_8_140, List.forall_mem_cons.mpr ⟨lk_8_143, List.forall_mem_cons.mpr ⟨lk_8_146, List.forall_mem_cons.mpr ⟨lk_8_150, fun _ h => absurd h List.not_mem_nil⟩⟩⟩⟩⟩⟩⟩⟩⟩⟩⟩⟩⟩⟩⟩⟩⟩⟩⟩⟩⟩⟩⟩⟩⟩⟩⟩⟩⟩⟩⟩⟩⟩⟩⟩⟩⟩⟩⟩⟩⟩⟩⟩
theorem lk_9_1 : LkA "VineyardBlends" 1 (18, 4, 0, 0) := inT 20 (by decide +kernel) (by decide +kernel)
theorem lk_9_7 : LkA "VineyardBlends" 7 (11, 0, 8, 16) := ⟨by decide, inT 23 (by decide +kernel) (by decide +kernel), inT 24 (by decide +kernel) (by decide +kernel), inT 2 (by decide +kernel) (by decide +kernel)⟩
theorem lk_9_9 : LkA "VineyardBlends" 9 (17, 1, 1, 1) := Or.inl (inT 25 (by decide +kernel) (by decide +kernel))
theorem lk_9_10 : LkA "VineyardBlends" 10 (2, 180, 9, 0) := ⟨by decide, 0, rfl, by decide, by decide, rfl, fun _ => ⟨rfl, rfl, fun v hv => by obtain ⟨a, rfl⟩ := hv; exact ⟨rfl, rfl⟩⟩, fun z => absurd rfl z, Or.inl (inT 305 (by decide +kernel) (by decide +kernel))⟩
theorem lk_9_16 : LkA "VineyardBlends" 16 (11, 1, 2, 0) := ⟨by decide, inT 169 (by decide +kernel) (by decide +kernel), inT 170 (by decide +kernel) (by decide +kernel), inT 7 (by decide +kernel) (by decide +kernel)⟩
theorem lk_9_18 : LkA "VineyardBlends" 18 (17, 101, 1, 1) := Or.inl (inT 171 (by decide +kernel) (by decide +kernel))
theorem lk_9_19 : LkA "VineyardBlends" 19 (2, 181, 9, 1) := ⟨by decide, 1, rfl, by decide, by decide, rfl, fun _ => ⟨rfl, rfl, fun v hv => by obtain ⟨a, rfl⟩ := hv; exact ⟨rfl, rfl⟩⟩, fun z => absurd rfl z, Or.inl (inT 306 (by decide +kernel) (by decide +kernel))⟩
theorem lk_9_23 : LkA "VineyardBlends" 23 (11, 7, 2, 0) := ⟨by decide, inT 186 (by decide +kernel) (by decide +kernel), inT 187 (by decide +kernel) (by decide +kernel), inT 8 (by decide +kernel) (by decide +kernel)⟩
theorem lk_9_25 : LkA "VineyardBlends" 25 (17, 701, 1, 1) := Or.inr ⟨"VineyardBlends", List.mem_of_getElem? (i := 32) (by decide +kernel)⟩
theorem lk_9_26 : LkA "VineyardBlends" 26 (2, 183, 9, 7) := ⟨by decide, 3, rfl, by decide, by decide, rfl, fun _ => ⟨rfl, rfl, fun v hv => by obtain ⟨a, rfl⟩ := hv; exact ⟨rfl, rfl⟩⟩, fun z => absurd rfl z, Or.inl (inT 307 (by decide +kernel) (by decide +kernel))⟩
theorem lk_9_30 : LkA "VineyardBlends" 30 (11, 8, 6, 0) := ⟨by decide, inT 203 (by decide +kernel) (by decide +kernel), inT 204 (by decide +kernel) (by decide +kernel), inT 9 (by decide +kernel) (by decide +kernel)⟩
theorem lk_9_32 : LkA "VineyardBlends" 32 (17, 801, 2, 1) := Or.inl (inT 205 (by decide +kernel) (by decide +kernel))
theorem lk_9_35 : LkA "VineyardBlends" 35 (2, 182, 9, 8) := ⟨by decide, 2, rfl, by decide, by decide, rfl, fun _ => ⟨rfl, rfl, fun v hv => by obtain ⟨a, rfl⟩ := hv; exact ⟨rfl, rfl⟩⟩, fun z => absurd rfl z, Or.inl (inT 308 (by decide +kernel) (by decide +kernel))⟩
theorem lk_9_39 : LkA "VineyardBlends" 39 (11, 3, 6, 0) := ⟨by decide, inT 237 (by decide +kernel) (by decide +kernel), inT 238 (by decide +kernel) (by decide +kernel), inT 10 (by decide +kernel) (by decide +kernel)⟩
theorem lk_9_41 : LkA "VineyardBlends" 41 (17, 301, 1, 1) := Or.inr ⟨"VineyardBlends", List.mem_of_getElem? (i := 38) (by decide +kernel)⟩
theorem lk_9_42 : LkA "VineyardBlends" 42 (2, 184, 9, 3) := ⟨by decide, 4, rfl, by decide, by decide, rfl, fun _ => ⟨rfl, rfl, fun v hv => by obtain ⟨a, rfl⟩ := hv; exact ⟨rfl, rfl⟩⟩, fun z => absurd rfl z, Or.inl (inT 309 (by decide +kernel) (by decide +kernel))⟩
theorem lk_9_46 : LkA "VineyardBlends" 46 (11, 6, 11, 0) := ⟨by decide, inT 265 (by decide +kernel) (by decide +kernel), inT 266 (by decide +kernel) (by decide +kernel), inT 11 (by decide +kernel) (by decide +kernel)⟩
theorem lk_9_48 : LkA "VineyardBlends" 48 (17, 601, 1, 1) := Or.inr ⟨"VineyardBlends", List.mem_of_getElem? (i := 39) (by decide +kernel)⟩
theorem lk_9_49 : LkA "VineyardBlends" 49 (2, 185, 9, 6) := ⟨by decide, 5, rfl, by decide, by decide, rfl, fun _ => ⟨rfl, rfl, fun v hv => by obtain ⟨a, rfl⟩ := hv; exact ⟨rfl, rfl⟩⟩, fun z => absurd rfl z, Or.inl (inT 310 (by decide +kernel) (by decide +kernel))⟩
theorem lk_9_53 : LkA "VineyardBlends" 53 (11, 2, 12, 15) := ⟨by decide, inT 301 (by decide +kernel) (by decide +kernel), inT 67 (by decide +kernel) (by decide +kernel), inT 6 (by decide +kernel) (by decide +kernel)⟩
theorem lk_9_55 : LkA "VineyardBlends" 55 (11, 4, 1, 0) := ⟨by decide, inT 302 (by decide +kernel) (by decide +kernel), inT 30 (by decide +kernel) (by decide +kernel), inT 3 (by decide +kernel) (by decide +kernel)⟩
theorem lk_9_57 : LkA "VineyardBlends" 57 (17, 401, 2, 1) := Or.inl (inT 303 (by decide +kernel) (by decide +kernel))
theorem lk_9_60 : LkA "VineyardBlends" 60 (17, 201, 3, 1) := Or.inl (inT 304 (by decide +kernel) (by decide +kernel))
theorem lk_9_63 : LkA "VineyardBlends" 63 (2, 186, 9, 2) := ⟨by decide, 6, rfl, by decide, by decide, rfl, fun _ => ⟨rfl, rfl, fun v hv => by obtain ⟨a, rfl⟩ := hv; exact ⟨rfl, rfl⟩⟩, fun z => absurd rfl z, Or.inl (inT 311 (by decide +kernel) (by decide +kernel))⟩
theorem lk_9_67 : LkA "VineyardBlends" 67 (17, 929, 3, 0) := Or.inl (inT 331 (by decide +kernel) (by decide +kernel))
theorem lk_9_71 : LkA "VineyardBlends" 71 (8, 3, 0, 0) := fun _ => inT 654 (by decide +kernel) (by decide +kernel)
theorem lk_9_77 : LkA "VineyardBlends" 77 (17, 1106, 2, 1) := Or.inl (inT 655 (by decide +kernel) (by decide +kernel))
theorem lk_9_81 : LkA "VineyardBlends" 81 (8, 4, 0, 0) := fun _ => inT 660 (by decide +kernel) (by decide +kernel)
theorem lk_9_84 : LkA "VineyardBlends" 84 (8, 0, 0, 0) := fun _ => inT 661 (by decide +kernel) (by decide +kernel)
theorem lk_9_87 : LkA "VineyardBlends" 87 (8, 1, 0, 0) := fun _ => inT 662 (by decide +kernel) (by decide +kernel)
theorem lk_9_90 : LkA "VineyardBlends" 90 (8, 2, 0, 0) := fun _ => inT 663 (by decide +kernel) (by decide +kernel)
theorem lk_9_93 : LkA "VineyardBlends" 93 (0, 4, 0, 0) := ⟨by decide, 4, rfl, by decide, by decide, rfl, fun z => absurd z (by decide), fun _ => ⟨rfl, rfl⟩, Or.inr ⟨"VineyardBlends", List.mem_of_getElem? (i := 29) (by decide +kernel)⟩⟩
theorem lk_9_97 : LkA "VineyardBlends" 97 (17, 8, 2, 1) := Or.inl (inT 626 (by decide +kernel) (by decide +kernel))
theorem lk_9_101 : LkA "VineyardBlends" 101 (17, 11, 1, 1) := Or.inl (inT 627 (by decide +kernel) (by decide +kernel))
theorem lk_9_105 : LkA "VineyardBlends" 105 (17, 102, 2, 1) := Or.inl (inT 527 (by decide +kernel) (by decide +kernel))
theorem lk_9_109 : LkA "VineyardBlends" 109 (17, 202, 1, 1) := Or.inl (inT 664 (by decide +kernel) (by decide +kernel))
theorem lk_9_112 : LkA "VineyardBlends" 112 (17, 1103, 3, 0) := Or.inl (inT 665 (by decide +kernel) (by decide +kernel))
theorem lk_9_116 : LkA "VineyardBlends" 116 (17, 204, 3, 1) := Or.inl (inT 668 (by decide +kernel) (by decide +kernel))
theorem lk_9_120 : LkA "VineyardBlends" 120 (0, 47, 2, 0) := ⟨by decide, 7, rfl, by decide, by decide, rfl, fun z => absurd z (by decide), fun _ => ⟨rfl, rfl⟩, Or.inr ⟨"VineyardBlends", List.mem_of_getElem? (i := 15) (by decide +kernel)⟩⟩
theorem lk_9_123 : LkA "VineyardBlends" 123 (0, 48, 2, 0) := ⟨by decide, 8, rfl, by decide, by decide, rfl, fun z => absurd z (by decide), fun _ => ⟨rfl, rfl⟩, Or.inr ⟨"VineyardBlends", List.mem_of_getElem? (i := 17) (by decide +kernel)⟩⟩
theorem lk_9_126 : LkA "VineyardBlends" 126 (2, 3, 0, 4) := ⟨by decide, 3, rfl, by decide, by decide, rfl, fun _ => ⟨rfl, rfl, fun v hv => by obtain ⟨a, rfl⟩ := hv; exact ⟨rfl, rfl⟩⟩, fun z => absurd rfl z, Or.inr ⟨"VineyardBlends", List.mem_of_getElem? (i := 27) (by decide +kernel)⟩⟩
theorem lk_9_130 : LkA "VineyardBlends" 130 (17, 404, 3, 1) := Or.inl (inT 537 (by decide +kernel) (by decide +kernel))
theorem lk_9_133 : LkA "VineyardBlends" 133 (17, 5, 3, 1) := Or.inl (inT 538 (by decide +kernel) (by decide +kernel))
theorem lk_9_137 : LkA "VineyardBlends" 137 (8, 5, 0, 0) := fun _ => inT 673 (by decide +kernel) (by decide +kernel)
theorem lk_9_140 : LkA "VineyardBlends" 140 (17, 4, 2, 1) := Or.inl (inT 334 (by decide +kernel) (by decide +kernel))
theorem lk_9_144 : LkA "VineyardBlends" 144 (0, 49, 2, 0) := ⟨by decide, 9, rfl, by decide, by decide, rfl, fun z => absurd z (by decide), fun _ => ⟨rfl, rfl⟩, Or.inr ⟨"VineyardBlends", List.mem_of_getElem? (i := 19) (by decide +kernel)⟩⟩
theorem lk_9_147 : LkA "VineyardBlends" 147 (0, 46, 2, 0) := ⟨by decide, 6, rfl, by decide, by decide, rfl, fun z => absurd z (by decide), fun _ => ⟨rfl, rfl⟩, Or.inr ⟨"VineyardBlends", List.mem_of_getElem? (i := 12) (by decide +kernel)⟩⟩
theorem lk_9_150 : LkA "VineyardBlends" 150 (0, 45, 2, 0) := ⟨by decide, 5, rfl, by decide, by decide, rfl, fun z => absurd z (by decide), fun _ => ⟨rfl, rfl⟩, Or.inr ⟨"VineyardBlends", List.mem_of_getElem? (i := 10) (by decide +kernel)⟩⟩
theorem lk_9_153 : LkA "VineyardBlends" 153 (0, 44, 2, 0) := ⟨by decide, 4, rfl, by decide, by decide, rfl, fun z => absurd z (by decide), fun _ => ⟨rfl, rfl⟩, Or.inr ⟨"VineyardBlends", List.mem_of_getElem? (i := 7) (by decide +kernel)⟩⟩
theorem lk_9_156 : LkA "VineyardBlends" 156 (2, 1, 0, 5) := ⟨by decide, 1, rfl, by decide, by decide, rfl, fun _ => ⟨rfl, rfl, fun v hv => by obtain ⟨a, rfl⟩ := hv; exact ⟨rfl, rfl⟩⟩, fun z => absurd rfl z, Or.inr ⟨"VineyardBlends", List.mem_of_getElem? (i := 23) (by decide +kernel)⟩⟩
theorem lk_9_160 : LkA "VineyardBlends" 160 (17, 506, 2, 1) := Or.inl (inT 342 (by decide +kernel) (by decide +kernel))
theorem lk_9_166 : LkA "VineyardBlends" 166 (17, 212, 1, 1) := Or.inl (inT 399 (by decide +kernel) (by decide +kernel))
theorem lk_9_169 : LkA "VineyardBlends" 169 (0, 50, 2, 0) := ⟨by decide, 10, rfl, by decide, by decide, rfl, fun z => absurd z (by decide), fun _ => ⟨rfl, rfl⟩, Or.inr ⟨"VineyardBlends", List.mem_of_getElem? (i := 21) (by decide +kernel)⟩⟩
theorem lk_9_172 : LkA "VineyardBlends" 172 (17, 930, 1, 0) := Or.inl (inT 403 (by decide +kernel) (by decide +kernel))
theorem lk_9_176 : LkA "VineyardBlends" 176 (17, 209, 2, 1) := Or.inl (inT 407 (by decide +kernel) (by decide +kernel))
theorem lk_9_180 : LkA "VineyardBlends" 180 (17, 215, 2, 1) := Or.inl (inT 692 (by decide +kernel) (by decide +kernel))
theorem lk_9_183 : LkA "VineyardBlends" 183 (17, 1101, 1, 0) := Or.inl (inT 406 (by decide +kernel) (by decide +kernel))
theorem lk_9_186 : LkA "VineyardBlends" 186 (17, 214, 2, 1) := Or.inl (inT 693 (by decide +kernel) (by decide +kernel))
theorem lk_9_189 : LkA "VineyardBlends" 189 (17, 1104, 2, 1) := Or.inl (inT 694 (by decide +kernel) (by decide +kernel))
theorem lk_9_204 : LkA "VineyardBlends" 204 (17, 9, 1, 1) := Or.inl (inT 554 (by decide +kernel) (by decide +kernel))
theorem lk_9_207 : LkA "VineyardBlends" 207 (17, 802, 3, 1) := Or.inl (inT 412 (by decide +kernel) (by decide +kernel))
theorem lk_9_211 : LkA "VineyardBlends" 211 (2, 161, 8, 2) := ⟨by decide, 1, rfl, by decide, by decide, rfl, fun _ => ⟨rfl, rfl, fun v hv => by obtain ⟨a, rfl⟩ := hv; exact ⟨rfl, rfl⟩⟩, fun z => absurd rfl z, Or.inr ⟨"VineyardBlends", List.mem_of_getElem? (i := 36) (by decide +kernel)⟩⟩
theorem lk_9_214 : LkA "VineyardBlends" 214 (17, 805, 2, 1) := Or.inl (inT 515 (by decide +kernel) (by decide +kernel))
theorem lk_9_217 : LkA "VineyardBlends" 217 (2, 160, 8, 0) := ⟨by decide, 0, rfl, by decide, by decide, rfl, fun _ => ⟨rfl, rfl, fun v hv => by obtain ⟨a, rfl⟩ := hv; exact ⟨rfl, rfl⟩⟩, fun z => absurd rfl z, Or.inr ⟨"VineyardBlends", List.mem_of_getElem? (i := 35) (by decide +kernel)⟩⟩
theorem lk_9_220 : LkA "VineyardBlends" 220 (17, 2, 2, 1) := Or.inl (inT 536 (by decide +kernel) (by decide +kernel))
theorem lk_9_223 : LkA "VineyardBlends" 223 (0, 165, 8, 0) := ⟨by decide, 5, rfl, by decide, by decide, rfl, fun z => absurd z (by decide), fun _ => ⟨rfl, rfl⟩, Or.inr ⟨"VineyardBlends", List.mem_of_getElem? (i := 37) (by decide +kernel)⟩⟩
theorem lk_9_226 : LkA "VineyardBlends" 226 (17, 806, 2, 1) := Or.inl (inT 555 (by decide +kernel) (by decide +kernel))
theorem lk_9_230 : LkA "VineyardBlends" 230 (17, 933, 2, 0) := Or.inl (inT 568 (by decide +kernel) (by decide +kernel))
theorem lk_9_234 : LkA "VineyardBlends" 234 (2, 42, 2, 4) := ⟨by decide, 2, rfl, by decide, by decide, rfl, fun _ => ⟨rfl, rfl, fun v hv => by obtain ⟨a, rfl⟩ := hv; exact ⟨rfl, rfl⟩⟩, fun z => absurd rfl z, Or.inr ⟨"VineyardBlends", List.mem_of_getElem? (i := 3) (by decide +kernel)⟩⟩
theorem lk_9_237 : LkA "VineyardBlends" 237 (17, 403, 3, 1) := Or.inl (inT 705 (by decide +kernel) (by decide +kernel))
theorem lk_9_240 : LkA "VineyardBlends" 240 (2, 2, 0, 4) := ⟨by decide, 2, rfl, by decide, by decide, rfl, fun _ => ⟨rfl, rfl, fun v hv => by obtain ⟨a, rfl⟩ := hv; exact ⟨rfl, rfl⟩⟩, fun z => absurd rfl z, Or.inr ⟨"VineyardBlends", List.mem_of_getElem? (i := 26) (by decide +kernel)⟩⟩
theorem lk_9_243 : LkA "VineyardBlends" 243 (17, 402, 2, 1) := Or.inl (inT 621 (by decide +kernel) (by decide +kernel))
theorem lk_9_266 : LkA "VineyardBlends" 266 (17, 305, 3, 1) := Or.inl (inT 580 (by decide +kernel) (by decide +kernel))
theorem lk_9_270 : LkA "VineyardBlends" 270 (17, 7, 2, 1) := Or.inl (inT 605 (by decide +kernel) (by decide +kernel))
theorem lk_9_274 : LkA "VineyardBlends" 274 (17, 206, 3, 1) := Or.inl (inT 615 (by decide +kernel) (by decide +kernel))
theorem lk_9_278 : LkA "VineyardBlends" 278 (17, 6, 1, 1) := Or.inl (inT 616 (by decide +kernel) (by decide +kernel))
theorem lk_9_281 : LkA "VineyardBlends" 281 (17, 932, 3, 1) := Or.inl (inT 617 (by decide +kernel) (by decide +kernel))
theorem lk_9_284 : LkA "VineyardBlends" 284 (17, 931, 1, 0) := Or.inl (inT 702 (by decide +kernel) (by decide +kernel))
theorem lk_9_287 : LkA "VineyardBlends" 287 (17, 12, 1, 1) := Or.inl (inT 681 (by decide +kernel) (by decide +kernel))
theorem lk_9_290 : LkA "VineyardBlends" 290 (0, 103, 5, 0) := ⟨by decide, 3, rfl, by decide, by decide, rfl, fun z => absurd z (by decide), fun _ => ⟨rfl, rfl⟩, Or.inr ⟨"VineyardBlends", List.mem_of_getElem? (i := 1) (by decide +kernel)⟩⟩
theorem lk_9_291 : LkA "VineyardBlends" 291 (0, 5, 0, 0) := ⟨by decide, 5, rfl, by decide, by decide, rfl, fun z => absurd z (by decide), fun _ => ⟨rfl, rfl⟩, Or.inr ⟨"VineyardBlends", List.mem_of_getElem? (i := 30) (by decide +kernel)⟩⟩
theorem lk_9_294 : LkA "VineyardBlends" 294 (17, 10, 1, 1) := Or.inl (inT 628 (by decide +kernel) (by decide +kernel))
theorem lk_9_297 : LkA "VineyardBlends" 297 (0, 21, 1, 0) := ⟨by decide, 1, rfl, by decide, by decide, rfl, fun z => absurd z (by decide), fun _ => ⟨rfl, rfl⟩, Or.inr ⟨"VineyardBlends", List.mem_of_getElem? (i := 31) (by decide +kernel)⟩⟩
theorem lk_9_298 : LkA "VineyardBlends" 298 (0, 122, 6, 0) := ⟨by decide, 2, rfl, by decide, by decide, rfl, fun z => absurd z (by decide), fun _ => ⟨rfl, rfl⟩, Or.inr ⟨"VineyardBlends", List.mem_of_getElem? (i := 41) (by decide +kernel)⟩⟩
theorem lk_9_301 : LkA "VineyardBlends" 301 (17, 104, 2, 1) := Or.inl (inT 637 (by decide +kernel) (by decide +kernel))
theorem lk_9_344 : LkA "VineyardBlends" 344 (18, 0, 0, 0) := inT 571 (by decide +kernel) (by decide +kernel)
theorem lk_9_349 : LkA "VineyardBlends" 349 (18, 1, 0, 0) := inT 572 (by decide +kernel) (by decide +kernel)
theorem lk_9_352 : LkA "VineyardBlends" 352 (18, 2, 0, 0) := inT 573 (by decide +kernel) (by decide +kernel)
set_option maxRecDepth 100000 in
theorem lkc_9 : ∀ q ∈ lkT.getD 9 [], LkA (cnX 9) q.1 q.2 := List.forall_mem_cons.mpr ⟨lk_9_1, List.forall_mem_cons.mpr ⟨lk_9_7, List.forall_mem_cons.mpr ⟨lk_9_9, List.forall_mem_cons.mpr ⟨lk_9_10, List.forall_mem_cons.mpr ⟨lk_9_16, List.forall_mem_cons.mpr ⟨lk_9_18, List.forall_mem_cons.mpr ⟨lk_9_19, List.forall_mem_cons.mpr ⟨lk_9_23, List.forall_mem_cons.mpr ⟨lk_9_25, List.forall_mem_cons.mpr ⟨lk_9_26, List.forall_mem_cons.mpr ⟨lk_9_30, List.forall_mem_cons.mpr ⟨lk_9_32, List.forall_mem_cons.mpr ⟨lk_9_35, List.forall_mem_cons.mpr ⟨lk_9_39, List.forall_mem_cons.mpr ⟨lk_9_41, List.forall_mem_cons.mpr ⟨lk_9_42, List.forall_mem_cons.mpr ⟨lk_9_46, List.forall_mem_cons.mpr ⟨lk_9_48, List.forall_mem_cons.mpr ⟨lk_9_49, List.forall_mem_cons.mpr ⟨lk_9_53, List.forall_mem_cons.mpr ⟨lk_9_55, List.forall_mem_cons.mpr ⟨lk_9_57, List.forall_mem_cons.mpr ⟨lk_9_60, List.forall_mem_cons.mpr ⟨lk_9_63, List.forall_mem_cons.mpr ⟨lk_9_67, List.forall_mem_cons.mpr ⟨lk_9_71, List.forall_mem_cons.mpr ⟨lk_9_77, List.forall_mem_cons.mpr ⟨lk_9_81, List.forall_mem_cons.mpr ⟨lk_9_84, List.forall_mem_cons.mpr ⟨lk_9_87, List.forall_mem_cons.mpr ⟨lk_9_90, List.forall_mem_cons.mpr ⟨lk_9_93, List.forall_mem_cons.mpr ⟨lk_9_97, List.forall_mem_cons.mpr ⟨lk_9_101, List.forall_mem_cons.mpr ⟨lk_9_105, List.forall_mem_cons.mpr ⟨lk_9_109, List.forall_mem_cons.mpr ⟨lk_9_112, List.forall_mem_cons.mpr ⟨lk_9_116, List.forall_mem_cons.mpr ⟨lk_9_120, List.forall_mem_cons.mpr ⟨lk_9_123, List.forall_mem_cons.mpr ⟨lk_9_126, List.forall_mem_cons.mpr ⟨lk_9_130, List.forall_mem_cons.mpr ⟨lk_9_133, List.forall_mem_cons.mpr ⟨lk_9_137, List.forall_mem_cons.mpr ⟨lk_9_140, List.forall_mem_cons.mpr ⟨lk_9_144, List.forall_mem_cons.mpr ⟨lk_9_147, List.forall_mem_cons.mpr ⟨lk_9_150, List.forall_mem_cons.mpr ⟨lk_9_153, List.forall_mem_cons.mpr ⟨lk_9_156, List.forall_mem_cons.mpr ⟨lk_9_160, List.forall_mem_cons.mpr ⟨lk_9_166, List.forall_mem_cons.mpr ⟨lk_9_169, List.forall_mem_cons.mpr ⟨lk_9_172, List.forall_mem_cons.mpr ⟨lk_9_176, List.forall_mem_cons.mpr ⟨lk_9_180, List.forall_mem_cons.mpr ⟨lk_9_183, List.forall_mem_cons.mpr ⟨lk_9_186, List.forall_mem_cons.mpr ⟨lk_9_189, List.forall_mem_cons.mpr ⟨lk_9_204, List.forall_mem_cons.mpr ⟨lk_9_207, List.forall_mem_cons.mpr ⟨lk_9_211, List.forall_mem_cons.mpr ⟨lk_9_214, List.forall_mem_cons.mpr ⟨lk_9_217, List.forall_mem_cons.mpr ⟨lk_9_220, List.forall_mem_cons.mpr ⟨lk_9_223, List.forall_mem_cons.mpr ⟨lk_9_226, List.forall_mem_cons.mpr ⟨lk_9_230, List.forall_mem_cons.mpr ⟨lk_9_234, List.forall_mem_cons.mpr ⟨lk_9_237, List.forall_mem_cons.mpr ⟨lk_9_240, List.forall_mem_cons.mpr ⟨lk_9_243, List.forall_mem_cons.mpr ⟨lk_9_266, List.forall_mem_cons.mpr ⟨lk_9_270, List.forall_mem_cons.mpr ⟨lk_9_274, List.forall_mem_cons.mpr ⟨lk_9_278, List.forall_mem_cons.mpr ⟨lk_9_281, List.forall_mem_cons.mpr ⟨lk_9_284, List.forall_mem_cons.mpr ⟨lk_9_287, List.forall_mem_cons.mpr ⟨lk_9_290, List.forall_mem_cons.mpr ⟨lk_9_291, List.forall_mem_cons.mpr ⟨lk_9_294, List.forall_mem_cons.mpr ⟨lk_9_297, List.forall_mem_cons.mpr ⟨lk_9_298, List.forall_mem_cons.mpr ⟨lk_9_301, List.forall_mem_cons.mpr ⟨lk_9_344, List.forall_mem_cons.mpr ⟨lk_9_349, List.forall_mem_cons.mpr ⟨lk_9_352, fun _ h => absurd h List.not_mem_nil⟩⟩⟩⟩⟩⟩⟩⟩⟩⟩⟩⟩⟩⟩⟩⟩⟩⟩⟩⟩⟩⟩⟩⟩⟩⟩⟩⟩⟩⟩⟩⟩⟩⟩⟩⟩⟩⟩⟩⟩⟩⟩⟩⟩⟩⟩⟩⟩⟩⟩⟩⟩⟩⟩⟩⟩⟩⟩⟩⟩⟩⟩⟩⟩⟩⟩⟩⟩⟩⟩⟩⟩⟩⟩⟩⟩⟩⟩⟩⟩⟩⟩⟩⟩⟩⟩⟩⟩
set_option maxRecDepth 100000 in
theorem lkc_10 : ∀ q ∈ lkT.getD 10 [], LkA (cnX 10) q.1 q.2 := fun _ h => absurd h List.not_mem_nil
theorem lk_11_5 : LkA "VineyardBlends$Topic" 5 (8, 0, 0, 0) := fun _ => inT 360 (by decide +kernel) (by decide +kernel)
theorem lk_11_9 : LkA "VineyardBlends$Topic" 9 (8, 1, 0, 0) := fun _ => inT 362 (by decide +kernel) (by decide +kernel)
theorem lk_11_12 : LkA "VineyardBlends$Topic" 12 (8, 2, 0, 0) := fun _ => inT 364 (by decide +kernel) (by decide +kernel)
theorem lk_11_15 : LkA "VineyardBlends$Topic" 15 (8, 3, 0, 0) := fun _ => inT 366 (by decide +kernel) (by decide +kernel)
theorem lk_11_18 : LkA "VineyardBlends$Topic" 18 (8, 4, 0, 0) := fun _ => inT 368 (by decide +kernel) (by decide +kernel)
theorem lk_11_21 : LkA "VineyardBlends$Topic" 21 (8, 5, 0, 0) := fun _ => inT 370 (by decide +kernel) (by decide +kernel)
theorem lk_11_47 : LkA "VineyardBlends$Topic" 47 (4, 0, 0, 0) := ⟨by decide, Or.inl (inT 727 (by decide +kernel) (by decide +kernel))⟩
theorem lk_11_51 : LkA "VineyardBlends$Topic" 51 (4, 1, 0, 0) := ⟨by decide, Or.inl (inT 728 (by decide +kernel) (by decide +kernel))⟩
theorem lk_11_54 : LkA "VineyardBlends$Topic" 54 (4, 2, 0, 0) := ⟨by decide, Or.inl (inT 724 (by decide +kernel) (by decide +kernel))⟩
theorem lk_11_57 : LkA "VineyardBlends$Topic" 57 (4, 3, 0, 0) := ⟨by decide, Or.inl (inT 725 (by decide +kernel) (by decide +kernel))⟩
theorem lk_11_60 : LkA "VineyardBlends$Topic" 60 (17, 1101, 1, 0) := Or.inl (inT 357 (by decide +kernel) (by decide +kernel))
theorem lk_11_64 : LkA "VineyardBlends$Topic" 64 (17, 929, 3, 0) := Or.inr ⟨"VineyardBlends", List.mem_of_getElem? (i := 42) (by decide +kernel)⟩
set_option maxRecDepth 100000 in
theorem lkc_11 : ∀ q ∈ lkT.getD 11 [], LkA (cnX 11) q.1 q.2 := List.forall_mem_cons.mpr ⟨lk_11_5, List.forall_mem_cons.mpr ⟨lk_11_9, List.forall_mem_cons.mpr ⟨lk_11_12, List.forall_mem_cons.mpr ⟨lk_11_15, List.forall_mem_cons.mpr ⟨lk_11_18, List.forall_mem_cons.mpr ⟨lk_11_21, List.forall_mem_cons.mpr ⟨lk_11_47, List.forall_mem_cons.mpr ⟨lk_11_51, List.forall_mem_cons.mpr ⟨lk_11_54, List.forall_mem_cons.mpr ⟨lk_11_57, List.forall_mem_cons.mpr ⟨lk_11_60, List.forall_mem_cons.mpr ⟨lk_11_64, fun _ h => absurd h List.not_mem_nil⟩⟩⟩⟩⟩⟩⟩⟩⟩⟩⟩⟩
set_option maxRecDepth 100000 in
theorem lkc_12 : ∀ q ∈ lkT.getD 12 [], LkA (cnX 12) q.1 q.2 := fun _ h => absurd h List.not_mem_nil
set_option maxRecDepth 100000 in
theorem lkc_13 : ∀ q ∈ lkT.getD 13 [], LkA (cnX 13) q.1 q.2 := fun _ h => absurd h List.not_mem_nil
set_option maxRecDepth 100000 in
theorem lkc_14 : ∀ q ∈ lkT.getD 14 [], LkA (cnX 14) q.1 q.2 := fun _ h => absurd h List.not_mem_nil
set_option maxRecDepth 100000 in
theorem lkc_15 : ∀ q ∈ lkT.getD 15 [], LkA (cnX 15) q.1 q.2 := fun _ h => absurd h List.not_mem_nil
theorem lk_16_7 : LkA "VineyardBlendsLaw" 7 (13, 15485207, 0, 0) := inT 644 (by decide +kernel) (by decide +kernel)
theorem lk_16_8 : LkA "VineyardBlendsLaw" 8 (13, 2147483647, 0, 0) := inT 645 (by decide +kernel) (by decide +kernel)
theorem lk_16_12 : LkA "VineyardBlendsLaw" 12 (11, 9, 7, 0) := ⟨by decide, inT 15 (by decide +kernel) (by decide +kernel), inT 16 (by decide +kernel) (by decide +kernel), inT 1 (by decide +kernel) (by decide +kernel)⟩
theorem lk_16_17 : LkA "VineyardBlendsLaw" 17 (13, 1103515245, 0, 0) := inT 649 (by decide +kernel) (by decide +kernel)
theorem lk_16_18 : LkA "VineyardBlendsLaw" 18 (17, 902, 7, 1) := Or.inl (inT 650 (by decide +kernel) (by decide +kernel))
theorem lk_16_22 : LkA "VineyardBlendsLaw" 22 (17, 903, 3, 1) := Or.inl (inT 669 (by decide +kernel) (by decide +kernel))
theorem lk_16_26 : LkA "VineyardBlendsLaw" 26 (17, 921, 2, 1) := Or.inl (inT 622 (by decide +kernel) (by decide +kernel))
theorem lk_16_29 : LkA "VineyardBlendsLaw" 29 (17, 905, 3, 1) := Or.inl (inT 327 (by decide +kernel) (by decide +kernel))
theorem lk_16_32 : LkA "VineyardBlendsLaw" 32 (17, 909, 3, 1) := Or.inl (inT 716 (by decide +kernel) (by decide +kernel))
theorem lk_16_35 : LkA "VineyardBlendsLaw" 35 (17, 920, 2, 1) := Or.inl (inT 677 (by decide +kernel) (by decide +kernel))
theorem lk_16_38 : LkA "VineyardBlendsLaw" 38 (17, 906, 4, 1) := Or.inl (inT 688 (by decide +kernel) (by decide +kernel))
theorem lk_16_42 : LkA "VineyardBlendsLaw" 42 (17, 918, 4, 1) := Or.inl (inT 611 (by decide +kernel) (by decide +kernel))
theorem lk_16_45 : LkA "VineyardBlendsLaw" 45 (17, 919, 3, 1) := Or.inl (inT 698 (by decide +kernel) (by decide +kernel))
theorem lk_16_48 : LkA "VineyardBlendsLaw" 48 (17, 917, 2, 1) := Or.inl (inT 601 (by decide +kernel) (by decide +kernel))
theorem lk_16_51 : LkA "VineyardBlendsLaw" 51 (17, 904, 3, 1) := Or.inl (inT 712 (by decide +kernel) (by decide +kernel))
theorem lk_16_54 : LkA "VineyardBlendsLaw" 54 (17, 910, 3, 1) := Or.inl (inT 408 (by decide +kernel) (by decide +kernel))
theorem lk_16_57 : LkA "VineyardBlendsLaw" 57 (17, 914, 4, 1) := Or.inl (inT 720 (by decide +kernel) (by decide +kernel))
theorem lk_16_60 : LkA "VineyardBlendsLaw" 60 (17, 901, 1, 1) := Or.inl (inT 17 (by decide +kernel) (by decide +kernel))
theorem lk_16_61 : LkA "VineyardBlendsLaw" 61 (17, 922, 1, 1) := Or.inl (inT 633 (by decide +kernel) (by decide +kernel))
theorem lk_16_65 : LkA "VineyardBlendsLaw" 65 (17, 912, 1, 1) := Or.inl (inT 550 (by decide +kernel) (by decide +kernel))
theorem lk_16_68 : LkA "VineyardBlendsLaw" 68 (17, 916, 2, 1) := Or.inl (inT 576 (by decide +kernel) (by decide +kernel))
theorem lk_16_71 : LkA "VineyardBlendsLaw" 71 (17, 1602, 2, 0) := Or.inl (inT 641 (by decide +kernel) (by decide +kernel))
theorem lk_16_77 : LkA "VineyardBlendsLaw" 77 (17, 1603, 3, 0) := Or.inl (inT 646 (by decide +kernel) (by decide +kernel))
theorem lk_16_81 : LkA "VineyardBlendsLaw" 81 (17, 1608, 2, 0) := Or.inl (inT 709 (by decide +kernel) (by decide +kernel))
theorem lk_16_85 : LkA "VineyardBlendsLaw" 85 (17, 1604, 1, 0) := Or.inl (inT 674 (by decide +kernel) (by decide +kernel))
theorem lk_16_89 : LkA "VineyardBlendsLaw" 89 (17, 1605, 2, 0) := Or.inl (inT 685 (by decide +kernel) (by decide +kernel))
theorem lk_16_93 : LkA "VineyardBlendsLaw" 93 (17, 1607, 3, 0) := Or.inl (inT 706 (by decide +kernel) (by decide +kernel))
theorem lk_16_97 : LkA "VineyardBlendsLaw" 97 (17, 1606, 2, 0) := Or.inl (inT 695 (by decide +kernel) (by decide +kernel))
theorem lk_16_101 : LkA "VineyardBlendsLaw" 101 (17, 913, 5, 1) := Or.inl (inT 564 (by decide +kernel) (by decide +kernel))
set_option maxRecDepth 100000 in
theorem lkc_16 : ∀ q ∈ lkT.getD 16 [], LkA (cnX 16) q.1 q.2 := List.forall_mem_cons.mpr ⟨lk_16_7, List.forall_mem_cons.mpr ⟨lk_16_8, List.forall_mem_cons.mpr ⟨lk_16_12, List.forall_mem_cons.mpr ⟨lk_16_17, List.forall_mem_cons.mpr ⟨lk_16_18, List.forall_mem_cons.mpr ⟨lk_16_22, List.forall_mem_cons.mpr ⟨lk_16_26, List.forall_mem_cons.mpr ⟨lk_16_29, List.forall_mem_cons.mpr ⟨lk_16_32, List.forall_mem_cons.mpr ⟨lk_16_35, List.forall_mem_cons.mpr ⟨lk_16_38, List.forall_mem_cons.mpr ⟨lk_16_42, List.forall_mem_cons.mpr ⟨lk_16_45, List.forall_mem_cons.mpr ⟨lk_16_48, List.forall_mem_cons.mpr ⟨lk_16_51, List.forall_mem_cons.mpr ⟨lk_16_54, List.forall_mem_cons.mpr ⟨lk_16_57, List.forall_mem_cons.mpr ⟨lk_16_60, List.forall_mem_cons.mpr ⟨lk_16_61, List.forall_mem_cons.mpr ⟨lk_16_65, List.forall_mem_cons.mpr ⟨lk_16_68, List.forall_mem_cons.mpr ⟨lk_16_71, List.forall_mem_cons.mpr ⟨lk_16_77, List.forall_mem_cons.mpr ⟨lk_16_81, List.forall_mem_cons.mpr ⟨lk_16_85, List.forall_mem_cons.mpr ⟨lk_16_89, List.forall_mem_cons.mpr ⟨lk_16_93, List.forall_mem_cons.mpr ⟨lk_16_97, List.forall_mem_cons.mpr ⟨lk_16_101, fun _ h => absurd h List.not_mem_nil⟩⟩⟩⟩⟩⟩⟩⟩⟩⟩⟩⟩⟩⟩⟩⟩⟩⟩⟩⟩⟩⟩⟩⟩⟩⟩⟩⟩⟩
theorem lkF_mem : ∀ (l : List (Nat × LK)) (k : Nat) (q : LK), lkF l k = some q → (k, q) ∈ l
  | [], _, _, h => by cases h
  | a :: r, k, q, h => by
    unfold lkF at h
    by_cases e : a.1 = k
    · rw [if_pos e] at h
      cases h
      rw [← e]
      exact List.mem_cons_self
    · rw [if_neg e] at h
      exact List.mem_cons_of_mem _ (lkF_mem r k q h)
theorem lk_all : ∀ (c k : Nat) (q : LK), lk c k = some q → LkA (cnX c) k q := by
  intro c k q h
  have hm := lkF_mem _ _ _ h
  match c, hm with
  | 0, hm => exact lkc_0 _ hm
  | 1, hm => exact lkc_1 _ hm
  | 2, hm => exact lkc_2 _ hm
  | 3, hm => exact lkc_3 _ hm
  | 4, hm => exact lkc_4 _ hm
  | 5, hm => exact lkc_5 _ hm
  | 6, hm => exact lkc_6 _ hm
  | 7, hm => exact lkc_7 _ hm
  | 8, hm => exact lkc_8 _ hm
  | 9, hm => exact lkc_9 _ hm
  | 10, hm => exact lkc_10 _ hm
  | 11, hm => exact lkc_11 _ hm
  | 12, hm => exact lkc_12 _ hm
  | 13, hm => exact lkc_13 _ hm
  | 14, hm => exact lkc_14 _ hm
  | 15, hm => exact lkc_15 _ hm
  | 16, hm => exact lkc_16 _ hm
  | n + 17, hm => exact absurd hm (by simp [lkT])
theorem jdk_ok : JDK := ⟨⟨inT 36 (by decide +kernel) (by decide +kernel), inT 455 (by decide +kernel) (by decide +kernel), inT 574 (by decide +kernel) (by decide +kernel)⟩, inT 4 (by decide +kernel) (by decide +kernel), ⟨inT 37 (by decide +kernel) (by decide +kernel), inT 456 (by decide +kernel) (by decide +kernel), inT 575 (by decide +kernel) (by decide +kernel)⟩, ⟨inT 459 (by decide +kernel) (by decide +kernel), inT 458 (by decide +kernel) (by decide +kernel), inT 12 (by decide +kernel) (by decide +kernel)⟩, inT 21 (by decide +kernel) (by decide +kernel), inT 22 (by decide +kernel) (by decide +kernel)⟩
theorem arc_ok : ∀ ty ∈ ([.int, .float] : List ArrayType), Cond.arrayClass (newarray.typeOf ty) ∈ wsG := by
  intro ty h
  simp only [List.mem_cons, List.not_mem_nil, or_false] at h
  rcases h with rfl | rfl
  · exact inT 42 (by decide +kernel) (by decide +kernel)
  · exact inT 264 (by decide +kernel) (by decide +kernel)
