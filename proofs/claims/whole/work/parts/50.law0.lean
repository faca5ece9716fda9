/-! the calls of the law, one by one -/
theorem kcl_94 : Jvm.Cond.constantLong RL 94 4294967295 ∈ LW := LW_of 999 (by decide +kernel) (by decide +kernel)
theorem yl_X7_set : YS yX7_set cX7_set 3 (some .int) 2 := ⟨LW_of 154 (by decide +kernel) (by decide +kernel), LW_of 45 (by decide +kernel) (by decide +kernel), by decide +kernel⟩
theorem wl_X7_set : Cond.instanceMethod yX7_set ∈ LW ∧ Cond.selects yX7_set.cls yX7_set yX7_set ∈ LW := ⟨LW_of 152 (by decide +kernel) (by decide +kernel), LW_of 153 (by decide +kernel) (by decide +kernel)⟩
theorem kl_13 : Cond.methodLink RL 13 yX7_set ∈ LW := LW_of 151 (by decide +kernel) (by decide +kernel)
theorem yl_X8_set : YS yX8_set cX8_set 5 (some .int) 2 := ⟨LW_of 713 (by decide +kernel) (by decide +kernel), LW_of 50 (by decide +kernel) (by decide +kernel), by decide +kernel⟩
theorem wl_X8_set : Cond.instanceMethod yX8_set ∈ LW ∧ Cond.selects yX8_set.cls yX8_set yX8_set ∈ LW := ⟨LW_of 711 (by decide +kernel) (by decide +kernel), LW_of 712 (by decide +kernel) (by decide +kernel)⟩
theorem kl_17 : Cond.methodLink RL 17 yX8_set ∈ LW := LW_of 710 (by decide +kernel) (by decide +kernel)
theorem yl_X7_pattern : YS yX7_pattern cX7_pattern 3 (some .int) 2 := ⟨LW_of 192 (by decide +kernel) (by decide +kernel), LW_of 45 (by decide +kernel) (by decide +kernel), by decide +kernel⟩
theorem wl_X7_pattern : Cond.instanceMethod yX7_pattern ∈ LW ∧ Cond.selects yX7_pattern.cls yX7_pattern yX7_pattern ∈ LW := ⟨LW_of 190 (by decide +kernel) (by decide +kernel), LW_of 191 (by decide +kernel) (by decide +kernel)⟩
theorem kl_18 : Cond.methodLink RL 18 yX7_pattern ∈ LW := LW_of 189 (by decide +kernel) (by decide +kernel)
theorem yl_X8_pattern : YS yX8_pattern cX8_pattern 3 (some .int) 2 := ⟨LW_of 728 (by decide +kernel) (by decide +kernel), LW_of 50 (by decide +kernel) (by decide +kernel), by decide +kernel⟩
theorem wl_X8_pattern : Cond.instanceMethod yX8_pattern ∈ LW ∧ Cond.selects yX8_pattern.cls yX8_pattern yX8_pattern ∈ LW := ⟨LW_of 726 (by decide +kernel) (by decide +kernel), LW_of 727 (by decide +kernel) (by decide +kernel)⟩
theorem kl_21 : Cond.methodLink RL 21 yX8_pattern ∈ LW := LW_of 725 (by decide +kernel) (by decide +kernel)
theorem yl_X7_take : YS yX7_take cX7_take 3 (some .int) 2 := ⟨LW_of 216 (by decide +kernel) (by decide +kernel), LW_of 45 (by decide +kernel) (by decide +kernel), by decide +kernel⟩
theorem wl_X7_take : Cond.instanceMethod yX7_take ∈ LW ∧ Cond.selects yX7_take.cls yX7_take yX7_take ∈ LW := ⟨LW_of 214 (by decide +kernel) (by decide +kernel), LW_of 215 (by decide +kernel) (by decide +kernel)⟩
theorem kl_22 : Cond.methodLink RL 22 yX7_take ∈ LW := LW_of 213 (by decide +kernel) (by decide +kernel)
theorem yl_X8_take : YS yX8_take cX8_take 3 (some .int) 2 := ⟨LW_of 744 (by decide +kernel) (by decide +kernel), LW_of 50 (by decide +kernel) (by decide +kernel), by decide +kernel⟩
theorem wl_X8_take : Cond.instanceMethod yX8_take ∈ LW ∧ Cond.selects yX8_take.cls yX8_take yX8_take ∈ LW := ⟨LW_of 742 (by decide +kernel) (by decide +kernel), LW_of 743 (by decide +kernel) (by decide +kernel)⟩
theorem kl_25 : Cond.methodLink RL 25 yX8_take ∈ LW := LW_of 741 (by decide +kernel) (by decide +kernel)
theorem yl_X7_fill : YS yX7_fill cX7_fill 3 (some .int) 2 := ⟨LW_of 238 (by decide +kernel) (by decide +kernel), LW_of 45 (by decide +kernel) (by decide +kernel), by decide +kernel⟩
theorem wl_X7_fill : Cond.instanceMethod yX7_fill ∈ LW ∧ Cond.selects yX7_fill.cls yX7_fill yX7_fill ∈ LW := ⟨LW_of 236 (by decide +kernel) (by decide +kernel), LW_of 237 (by decide +kernel) (by decide +kernel)⟩
theorem kl_26 : Cond.methodLink RL 26 yX7_fill ∈ LW := LW_of 235 (by decide +kernel) (by decide +kernel)
theorem yl_X8_fill : YS yX8_fill cX8_fill 4 (some .int) 2 := ⟨LW_of 759 (by decide +kernel) (by decide +kernel), LW_of 50 (by decide +kernel) (by decide +kernel), by decide +kernel⟩
theorem wl_X8_fill : Cond.instanceMethod yX8_fill ∈ LW ∧ Cond.selects yX8_fill.cls yX8_fill yX8_fill ∈ LW := ⟨LW_of 757 (by decide +kernel) (by decide +kernel), LW_of 758 (by decide +kernel) (by decide +kernel)⟩
theorem kl_29 : Cond.methodLink RL 29 yX8_fill ∈ LW := LW_of 756 (by decide +kernel) (by decide +kernel)
theorem yl_X7_pour : YS yX7_pour cX7_pour 5 (some .int) 4 := ⟨LW_of 252 (by decide +kernel) (by decide +kernel), LW_of 45 (by decide +kernel) (by decide +kernel), by decide +kernel⟩
theorem wl_X7_pour : Cond.instanceMethod yX7_pour ∈ LW ∧ Cond.selects yX7_pour.cls yX7_pour yX7_pour ∈ LW := ⟨LW_of 250 (by decide +kernel) (by decide +kernel), LW_of 251 (by decide +kernel) (by decide +kernel)⟩
theorem kl_30 : Cond.methodLink RL 30 yX7_pour ∈ LW := LW_of 249 (by decide +kernel) (by decide +kernel)
theorem yl_X8_pour : YS yX8_pour cX8_pour 5 (some .int) 4 := ⟨LW_of 766 (by decide +kernel) (by decide +kernel), LW_of 50 (by decide +kernel) (by decide +kernel), by decide +kernel⟩
theorem wl_X8_pour : Cond.instanceMethod yX8_pour ∈ LW ∧ Cond.selects yX8_pour.cls yX8_pour yX8_pour ∈ LW := ⟨LW_of 764 (by decide +kernel) (by decide +kernel), LW_of 765 (by decide +kernel) (by decide +kernel)⟩
theorem kl_34 : Cond.methodLink RL 34 yX8_pour ∈ LW := LW_of 763 (by decide +kernel) (by decide +kernel)
theorem yl_X7_scrape : YS yX7_scrape cX7_scrape 4 (some .int) 3 := ⟨LW_of 280 (by decide +kernel) (by decide +kernel), LW_of 45 (by decide +kernel) (by decide +kernel), by decide +kernel⟩
theorem wl_X7_scrape : Cond.instanceMethod yX7_scrape ∈ LW ∧ Cond.selects yX7_scrape.cls yX7_scrape yX7_scrape ∈ LW := ⟨LW_of 278 (by decide +kernel) (by decide +kernel), LW_of 279 (by decide +kernel) (by decide +kernel)⟩
theorem kl_35 : Cond.methodLink RL 35 yX7_scrape ∈ LW := LW_of 277 (by decide +kernel) (by decide +kernel)
theorem yl_X8_scrape : YS yX8_scrape cX8_scrape 4 (some .int) 3 := ⟨LW_of 784 (by decide +kernel) (by decide +kernel), LW_of 50 (by decide +kernel) (by decide +kernel), by decide +kernel⟩
theorem wl_X8_scrape : Cond.instanceMethod yX8_scrape ∈ LW ∧ Cond.selects yX8_scrape.cls yX8_scrape yX8_scrape ∈ LW := ⟨LW_of 782 (by decide +kernel) (by decide +kernel), LW_of 783 (by decide +kernel) (by decide +kernel)⟩
theorem kl_39 : Cond.methodLink RL 39 yX8_scrape ∈ LW := LW_of 781 (by decide +kernel) (by decide +kernel)
theorem yl_X7_breathe : YS yX7_breathe cX7_breathe 3 (some .int) 2 := ⟨LW_of 287 (by decide +kernel) (by decide +kernel), LW_of 45 (by decide +kernel) (by decide +kernel), by decide +kernel⟩
theorem wl_X7_breathe : Cond.instanceMethod yX7_breathe ∈ LW ∧ Cond.selects yX7_breathe.cls yX7_breathe yX7_breathe ∈ LW := ⟨LW_of 285 (by decide +kernel) (by decide +kernel), LW_of 286 (by decide +kernel) (by decide +kernel)⟩
theorem kl_40 : Cond.methodLink RL 40 yX7_breathe ∈ LW := LW_of 284 (by decide +kernel) (by decide +kernel)
theorem yl_X8_breathe : YS yX8_breathe cX8_breathe 3 (some .int) 2 := ⟨LW_of 792 (by decide +kernel) (by decide +kernel), LW_of 50 (by decide +kernel) (by decide +kernel), by decide +kernel⟩
theorem wl_X8_breathe : Cond.instanceMethod yX8_breathe ∈ LW ∧ Cond.selects yX8_breathe.cls yX8_breathe yX8_breathe ∈ LW := ⟨LW_of 790 (by decide +kernel) (by decide +kernel), LW_of 791 (by decide +kernel) (by decide +kernel)⟩
theorem kl_43 : Cond.methodLink RL 43 yX8_breathe ∈ LW := LW_of 789 (by decide +kernel) (by decide +kernel)
theorem yl_X7_close : YS yX7_close cX7_close 1 (some .int) 0 := ⟨LW_of 321 (by decide +kernel) (by decide +kernel), LW_of 45 (by decide +kernel) (by decide +kernel), by decide +kernel⟩
theorem wl_X7_close : Cond.instanceMethod yX7_close ∈ LW ∧ Cond.selects yX7_close.cls yX7_close yX7_close ∈ LW := ⟨LW_of 319 (by decide +kernel) (by decide +kernel), LW_of 320 (by decide +kernel) (by decide +kernel)⟩
theorem kl_44 : Cond.methodLink RL 44 yX7_close ∈ LW := LW_of 318 (by decide +kernel) (by decide +kernel)
theorem yl_X8_close : YS yX8_close cX8_close 1 (some .int) 0 := ⟨LW_of 808 (by decide +kernel) (by decide +kernel), LW_of 50 (by decide +kernel) (by decide +kernel), by decide +kernel⟩
theorem wl_X8_close : Cond.instanceMethod yX8_close ∈ LW ∧ Cond.selects yX8_close.cls yX8_close yX8_close ∈ LW := ⟨LW_of 806 (by decide +kernel) (by decide +kernel), LW_of 807 (by decide +kernel) (by decide +kernel)⟩
theorem kl_48 : Cond.methodLink RL 48 yX8_close ∈ LW := LW_of 805 (by decide +kernel) (by decide +kernel)
theorem yl_X7_sweep : YS yX7_sweep cX7_sweep 1 (some .int) 0 := ⟨LW_of 347 (by decide +kernel) (by decide +kernel), LW_of 45 (by decide +kernel) (by decide +kernel), by decide +kernel⟩
theorem wl_X7_sweep : Cond.instanceMethod yX7_sweep ∈ LW ∧ Cond.selects yX7_sweep.cls yX7_sweep yX7_sweep ∈ LW := ⟨LW_of 345 (by decide +kernel) (by decide +kernel), LW_of 346 (by decide +kernel) (by decide +kernel)⟩
theorem kl_49 : Cond.methodLink RL 49 yX7_sweep ∈ LW := LW_of 344 (by decide +kernel) (by decide +kernel)
theorem yl_X8_sweep : YS yX8_sweep cX8_sweep 1 (some .int) 0 := ⟨LW_of 836 (by decide +kernel) (by decide +kernel), LW_of 50 (by decide +kernel) (by decide +kernel), by decide +kernel⟩
theorem wl_X8_sweep : Cond.instanceMethod yX8_sweep ∈ LW ∧ Cond.selects yX8_sweep.cls yX8_sweep yX8_sweep ∈ LW := ⟨LW_of 834 (by decide +kernel) (by decide +kernel), LW_of 835 (by decide +kernel) (by decide +kernel)⟩
theorem kl_52 : Cond.methodLink RL 52 yX8_sweep ∈ LW := LW_of 833 (by decide +kernel) (by decide +kernel)
theorem yl_X7_at : YS yX7_at cX7_at 5 (some .int) 4 := ⟨LW_of 363 (by decide +kernel) (by decide +kernel), LW_of 45 (by decide +kernel) (by decide +kernel), by decide +kernel⟩
theorem wl_X7_at : Cond.instanceMethod yX7_at ∈ LW ∧ Cond.selects yX7_at.cls yX7_at yX7_at ∈ LW := ⟨LW_of 361 (by decide +kernel) (by decide +kernel), LW_of 362 (by decide +kernel) (by decide +kernel)⟩
theorem kl_53 : Cond.methodLink RL 53 yX7_at ∈ LW := LW_of 360 (by decide +kernel) (by decide +kernel)
theorem yl_X8_at : YS yX8_at cX8_at 5 (some .int) 4 := ⟨LW_of 847 (by decide +kernel) (by decide +kernel), LW_of 50 (by decide +kernel) (by decide +kernel), by decide +kernel⟩
theorem wl_X8_at : Cond.instanceMethod yX8_at ∈ LW ∧ Cond.selects yX8_at.cls yX8_at yX8_at ∈ LW := ⟨LW_of 845 (by decide +kernel) (by decide +kernel), LW_of 846 (by decide +kernel) (by decide +kernel)⟩
theorem kl_56 : Cond.methodLink RL 56 yX8_at ∈ LW := LW_of 844 (by decide +kernel) (by decide +kernel)
theorem yl_X7_ofRing : YS yX7_ofRing cX7_ofRing 3 (some .int) 2 := ⟨LW_of 374 (by decide +kernel) (by decide +kernel), LW_of 45 (by decide +kernel) (by decide +kernel), by decide +kernel⟩
theorem wl_X7_ofRing : Cond.instanceMethod yX7_ofRing ∈ LW ∧ Cond.selects yX7_ofRing.cls yX7_ofRing yX7_ofRing ∈ LW := ⟨LW_of 372 (by decide +kernel) (by decide +kernel), LW_of 373 (by decide +kernel) (by decide +kernel)⟩
theorem kl_57 : Cond.methodLink RL 57 yX7_ofRing ∈ LW := LW_of 371 (by decide +kernel) (by decide +kernel)
theorem yl_X8_ofRing : YS yX8_ofRing cX8_ofRing 3 (some .int) 2 := ⟨LW_of 851 (by decide +kernel) (by decide +kernel), LW_of 50 (by decide +kernel) (by decide +kernel), by decide +kernel⟩
theorem wl_X8_ofRing : Cond.instanceMethod yX8_ofRing ∈ LW ∧ Cond.selects yX8_ofRing.cls yX8_ofRing yX8_ofRing ∈ LW := ⟨LW_of 849 (by decide +kernel) (by decide +kernel), LW_of 850 (by decide +kernel) (by decide +kernel)⟩
theorem kl_60 : Cond.methodLink RL 60 yX8_ofRing ∈ LW := LW_of 848 (by decide +kernel) (by decide +kernel)
theorem yl_X7_ofQuarter : YS yX7_ofQuarter cX7_ofQuarter 4 (some .int) 2 := ⟨LW_of 409 (by decide +kernel) (by decide +kernel), LW_of 45 (by decide +kernel) (by decide +kernel), by decide +kernel⟩
theorem wl_X7_ofQuarter : Cond.instanceMethod yX7_ofQuarter ∈ LW ∧ Cond.selects yX7_ofQuarter.cls yX7_ofQuarter yX7_ofQuarter ∈ LW := ⟨LW_of 407 (by decide +kernel) (by decide +kernel), LW_of 408 (by decide +kernel) (by decide +kernel)⟩
theorem kl_61 : Cond.methodLink RL 61 yX7_ofQuarter ∈ LW := LW_of 406 (by decide +kernel) (by decide +kernel)
theorem yl_X8_ofQuarter : YS yX8_ofQuarter cX8_ofQuarter 3 (some .int) 2 := ⟨LW_of 867 (by decide +kernel) (by decide +kernel), LW_of 50 (by decide +kernel) (by decide +kernel), by decide +kernel⟩
theorem wl_X8_ofQuarter : Cond.instanceMethod yX8_ofQuarter ∈ LW ∧ Cond.selects yX8_ofQuarter.cls yX8_ofQuarter yX8_ofQuarter ∈ LW := ⟨LW_of 865 (by decide +kernel) (by decide +kernel), LW_of 866 (by decide +kernel) (by decide +kernel)⟩
theorem kl_64 : Cond.methodLink RL 64 yX8_ofQuarter ∈ LW := LW_of 864 (by decide +kernel) (by decide +kernel)
theorem yl_X7_ofColour : YS yX7_ofColour cX7_ofColour 3 (some .int) 2 := ⟨LW_of 424 (by decide +kernel) (by decide +kernel), LW_of 45 (by decide +kernel) (by decide +kernel), by decide +kernel⟩
theorem wl_X7_ofColour : Cond.instanceMethod yX7_ofColour ∈ LW ∧ Cond.selects yX7_ofColour.cls yX7_ofColour yX7_ofColour ∈ LW := ⟨LW_of 422 (by decide +kernel) (by decide +kernel), LW_of 423 (by decide +kernel) (by decide +kernel)⟩
theorem kl_65 : Cond.methodLink RL 65 yX7_ofColour ∈ LW := LW_of 421 (by decide +kernel) (by decide +kernel)
theorem yl_X8_ofColour : YS yX8_ofColour cX8_ofColour 3 (some .int) 2 := ⟨LW_of 879 (by decide +kernel) (by decide +kernel), LW_of 50 (by decide +kernel) (by decide +kernel), by decide +kernel⟩
theorem wl_X8_ofColour : Cond.instanceMethod yX8_ofColour ∈ LW ∧ Cond.selects yX8_ofColour.cls yX8_ofColour yX8_ofColour ∈ LW := ⟨LW_of 877 (by decide +kernel) (by decide +kernel), LW_of 878 (by decide +kernel) (by decide +kernel)⟩
theorem kl_68 : Cond.methodLink RL 68 yX8_ofColour ∈ LW := LW_of 876 (by decide +kernel) (by decide +kernel)
theorem yl_X7_count : YS yX7_count cX7_count 2 (some .int) 1 := ⟨LW_of 430 (by decide +kernel) (by decide +kernel), LW_of 45 (by decide +kernel) (by decide +kernel), by decide +kernel⟩
theorem wl_X7_count : Cond.instanceMethod yX7_count ∈ LW ∧ Cond.selects yX7_count.cls yX7_count yX7_count ∈ LW := ⟨LW_of 428 (by decide +kernel) (by decide +kernel), LW_of 429 (by decide +kernel) (by decide +kernel)⟩
theorem kl_69 : Cond.methodLink RL 69 yX7_count ∈ LW := LW_of 427 (by decide +kernel) (by decide +kernel)
theorem yl_X8_count : YS yX8_count cX8_count 2 (some .int) 1 := ⟨LW_of 887 (by decide +kernel) (by decide +kernel), LW_of 50 (by decide +kernel) (by decide +kernel), by decide +kernel⟩
theorem wl_X8_count : Cond.instanceMethod yX8_count ∈ LW ∧ Cond.selects yX8_count.cls yX8_count yX8_count ∈ LW := ⟨LW_of 885 (by decide +kernel) (by decide +kernel), LW_of 886 (by decide +kernel) (by decide +kernel)⟩
theorem kl_73 : Cond.methodLink RL 73 yX8_count ∈ LW := LW_of 884 (by decide +kernel) (by decide +kernel)
theorem yl_X7_needed : YS yX7_needed cX7_needed 6 (some .int) 1 := ⟨LW_of 448 (by decide +kernel) (by decide +kernel), LW_of 45 (by decide +kernel) (by decide +kernel), by decide +kernel⟩
theorem wl_X7_needed : Cond.instanceMethod yX7_needed ∈ LW ∧ Cond.selects yX7_needed.cls yX7_needed yX7_needed ∈ LW := ⟨LW_of 446 (by decide +kernel) (by decide +kernel), LW_of 447 (by decide +kernel) (by decide +kernel)⟩
theorem kl_74 : Cond.methodLink RL 74 yX7_needed ∈ LW := LW_of 445 (by decide +kernel) (by decide +kernel)
theorem yl_X8_needed : YS yX8_needed cX8_needed 10 (some .int) 1 := ⟨LW_of 899 (by decide +kernel) (by decide +kernel), LW_of 50 (by decide +kernel) (by decide +kernel), by decide +kernel⟩
theorem wl_X8_needed : Cond.instanceMethod yX8_needed ∈ LW ∧ Cond.selects yX8_needed.cls yX8_needed yX8_needed ∈ LW := ⟨LW_of 897 (by decide +kernel) (by decide +kernel), LW_of 898 (by decide +kernel) (by decide +kernel)⟩
theorem kl_77 : Cond.methodLink RL 77 yX8_needed ∈ LW := LW_of 896 (by decide +kernel) (by decide +kernel)
theorem yl_X7_lacking : YS yX7_lacking cX7_lacking 4 (some .int) 0 := ⟨LW_of 462 (by decide +kernel) (by decide +kernel), LW_of 45 (by decide +kernel) (by decide +kernel), by decide +kernel⟩
theorem wl_X7_lacking : Cond.instanceMethod yX7_lacking ∈ LW ∧ Cond.selects yX7_lacking.cls yX7_lacking yX7_lacking ∈ LW := ⟨LW_of 460 (by decide +kernel) (by decide +kernel), LW_of 461 (by decide +kernel) (by decide +kernel)⟩
theorem kl_78 : Cond.methodLink RL 78 yX7_lacking ∈ LW := LW_of 459 (by decide +kernel) (by decide +kernel)
theorem yl_X8_lacking : YS yX8_lacking cX8_lacking 3 (some .int) 0 := ⟨LW_of 903 (by decide +kernel) (by decide +kernel), LW_of 50 (by decide +kernel) (by decide +kernel), by decide +kernel⟩
theorem wl_X8_lacking : Cond.instanceMethod yX8_lacking ∈ LW ∧ Cond.selects yX8_lacking.cls yX8_lacking yX8_lacking ∈ LW := ⟨LW_of 901 (by decide +kernel) (by decide +kernel), LW_of 902 (by decide +kernel) (by decide +kernel)⟩
theorem kl_81 : Cond.methodLink RL 81 yX8_lacking ∈ LW := LW_of 900 (by decide +kernel) (by decide +kernel)
theorem yl_X7_ifBreathed : YS yX7_ifBreathed cX7_ifBreathed 5 (some .int) 3 := ⟨LW_of 466 (by decide +kernel) (by decide +kernel), LW_of 45 (by decide +kernel) (by decide +kernel), by decide +kernel⟩
theorem wl_X7_ifBreathed : Cond.instanceMethod yX7_ifBreathed ∈ LW ∧ Cond.selects yX7_ifBreathed.cls yX7_ifBreathed yX7_ifBreathed ∈ LW := ⟨LW_of 464 (by decide +kernel) (by decide +kernel), LW_of 465 (by decide +kernel) (by decide +kernel)⟩
theorem kl_82 : Cond.methodLink RL 82 yX7_ifBreathed ∈ LW := LW_of 463 (by decide +kernel) (by decide +kernel)
theorem yl_X8_ifBreathed : YS yX8_ifBreathed cX8_ifBreathed 10 (some .int) 3 := ⟨LW_of 907 (by decide +kernel) (by decide +kernel), LW_of 50 (by decide +kernel) (by decide +kernel), by decide +kernel⟩
theorem wl_X8_ifBreathed : Cond.instanceMethod yX8_ifBreathed ∈ LW ∧ Cond.selects yX8_ifBreathed.cls yX8_ifBreathed yX8_ifBreathed ∈ LW := ⟨LW_of 905 (by decide +kernel) (by decide +kernel), LW_of 906 (by decide +kernel) (by decide +kernel)⟩
theorem kl_85 : Cond.methodLink RL 85 yX8_ifBreathed ∈ LW := LW_of 904 (by decide +kernel) (by decide +kernel)
theorem yl_X7_settles : YS yX7_settles cX7_settles 4 (some .int) 2 := ⟨LW_of 479 (by decide +kernel) (by decide +kernel), LW_of 45 (by decide +kernel) (by decide +kernel), by decide +kernel⟩
theorem wl_X7_settles : Cond.instanceMethod yX7_settles ∈ LW ∧ Cond.selects yX7_settles.cls yX7_settles yX7_settles ∈ LW := ⟨LW_of 477 (by decide +kernel) (by decide +kernel), LW_of 478 (by decide +kernel) (by decide +kernel)⟩
theorem kl_86 : Cond.methodLink RL 86 yX7_settles ∈ LW := LW_of 476 (by decide +kernel) (by decide +kernel)
theorem yl_X8_settles : YS yX8_settles cX8_settles 4 (some .int) 2 := ⟨LW_of 923 (by decide +kernel) (by decide +kernel), LW_of 50 (by decide +kernel) (by decide +kernel), by decide +kernel⟩
theorem wl_X8_settles : Cond.instanceMethod yX8_settles ∈ LW ∧ Cond.selects yX8_settles.cls yX8_settles yX8_settles ∈ LW := ⟨LW_of 921 (by decide +kernel) (by decide +kernel), LW_of 922 (by decide +kernel) (by decide +kernel)⟩
theorem kl_89 : Cond.methodLink RL 89 yX8_settles ∈ LW := LW_of 920 (by decide +kernel) (by decide +kernel)
theorem yl_X7_best : YS yX7_best cX7_best 5 (some .int) 0 := ⟨LW_of 487 (by decide +kernel) (by decide +kernel), LW_of 45 (by decide +kernel) (by decide +kernel), by decide +kernel⟩
theorem wl_X7_best : Cond.instanceMethod yX7_best ∈ LW ∧ Cond.selects yX7_best.cls yX7_best yX7_best ∈ LW := ⟨LW_of 485 (by decide +kernel) (by decide +kernel), LW_of 486 (by decide +kernel) (by decide +kernel)⟩
theorem kl_90 : Cond.methodLink RL 90 yX7_best ∈ LW := LW_of 484 (by decide +kernel) (by decide +kernel)
theorem yl_X8_best : YS yX8_best cX8_best 3 (some .int) 0 := ⟨LW_of 931 (by decide +kernel) (by decide +kernel), LW_of 50 (by decide +kernel) (by decide +kernel), by decide +kernel⟩
theorem wl_X8_best : Cond.instanceMethod yX8_best ∈ LW ∧ Cond.selects yX8_best.cls yX8_best yX8_best ∈ LW := ⟨LW_of 929 (by decide +kernel) (by decide +kernel), LW_of 930 (by decide +kernel) (by decide +kernel)⟩
theorem kl_93 : Cond.methodLink RL 93 yX8_best ∈ LW := LW_of 928 (by decide +kernel) (by decide +kernel)
theorem yl_X7_put : YS yX7_put cX7_put 3 (some .int) 1 := ⟨LW_of 491 (by decide +kernel) (by decide +kernel), LW_of 45 (by decide +kernel) (by decide +kernel), by decide +kernel⟩
theorem wl_X7_put : Cond.instanceMethod yX7_put ∈ LW ∧ Cond.selects yX7_put.cls yX7_put yX7_put ∈ LW := ⟨LW_of 489 (by decide +kernel) (by decide +kernel), LW_of 490 (by decide +kernel) (by decide +kernel)⟩
theorem kl_96 : Cond.methodLink RL 96 yX7_put ∈ LW := LW_of 488 (by decide +kernel) (by decide +kernel)
theorem yl_X8_put : YS yX8_put cX8_put 8 (some .int) 1 := ⟨LW_of 935 (by decide +kernel) (by decide +kernel), LW_of 50 (by decide +kernel) (by decide +kernel), by decide +kernel⟩
theorem wl_X8_put : Cond.instanceMethod yX8_put ∈ LW ∧ Cond.selects yX8_put.cls yX8_put yX8_put ∈ LW := ⟨LW_of 933 (by decide +kernel) (by decide +kernel), LW_of 934 (by decide +kernel) (by decide +kernel)⟩
theorem kl_100 : Cond.methodLink RL 100 yX8_put ∈ LW := LW_of 932 (by decide +kernel) (by decide +kernel)
theorem yl_X7_wipe : YS yX7_wipe cX7_wipe 2 (some .int) 0 := ⟨LW_of 509 (by decide +kernel) (by decide +kernel), LW_of 45 (by decide +kernel) (by decide +kernel), by decide +kernel⟩
theorem wl_X7_wipe : Cond.instanceMethod yX7_wipe ∈ LW ∧ Cond.selects yX7_wipe.cls yX7_wipe yX7_wipe ∈ LW := ⟨LW_of 507 (by decide +kernel) (by decide +kernel), LW_of 508 (by decide +kernel) (by decide +kernel)⟩
theorem kl_101 : Cond.methodLink RL 101 yX7_wipe ∈ LW := LW_of 506 (by decide +kernel) (by decide +kernel)
theorem yl_X8_wipe : YS yX8_wipe cX8_wipe 2 (some .int) 0 := ⟨LW_of 942 (by decide +kernel) (by decide +kernel), LW_of 50 (by decide +kernel) (by decide +kernel), by decide +kernel⟩
theorem wl_X8_wipe : Cond.instanceMethod yX8_wipe ∈ LW ∧ Cond.selects yX8_wipe.cls yX8_wipe yX8_wipe ∈ LW := ⟨LW_of 940 (by decide +kernel) (by decide +kernel), LW_of 941 (by decide +kernel) (by decide +kernel)⟩
theorem kl_104 : Cond.methodLink RL 104 yX8_wipe ∈ LW := LW_of 939 (by decide +kernel) (by decide +kernel)
theorem yl_X7_fault : YS yX7_fault cX7_fault 1 (some .int) 0 := ⟨LW_of 517 (by decide +kernel) (by decide +kernel), LW_of 45 (by decide +kernel) (by decide +kernel), by decide +kernel⟩
theorem wl_X7_fault : Cond.instanceMethod yX7_fault ∈ LW ∧ Cond.selects yX7_fault.cls yX7_fault yX7_fault ∈ LW := ⟨LW_of 515 (by decide +kernel) (by decide +kernel), LW_of 516 (by decide +kernel) (by decide +kernel)⟩
theorem kl_105 : Cond.methodLink RL 105 yX7_fault ∈ LW := LW_of 514 (by decide +kernel) (by decide +kernel)
theorem yl_X8_fault : YS yX8_fault cX8_fault 2 (some .int) 0 := ⟨LW_of 946 (by decide +kernel) (by decide +kernel), LW_of 50 (by decide +kernel) (by decide +kernel), by decide +kernel⟩
theorem wl_X8_fault : Cond.instanceMethod yX8_fault ∈ LW ∧ Cond.selects yX8_fault.cls yX8_fault yX8_fault ∈ LW := ⟨LW_of 944 (by decide +kernel) (by decide +kernel), LW_of 945 (by decide +kernel) (by decide +kernel)⟩
theorem kl_108 : Cond.methodLink RL 108 yX8_fault ∈ LW := LW_of 943 (by decide +kernel) (by decide +kernel)
theorem yl_X7_carryOut : YS yX7_carryOut cX7_carryOut 4 (some .int) 0 := ⟨LW_of 601 (by decide +kernel) (by decide +kernel), LW_of 45 (by decide +kernel) (by decide +kernel), by decide +kernel⟩
theorem wl_X7_carryOut : Cond.instanceMethod yX7_carryOut ∈ LW ∧ Cond.selects yX7_carryOut.cls yX7_carryOut yX7_carryOut ∈ LW := ⟨LW_of 599 (by decide +kernel) (by decide +kernel), LW_of 600 (by decide +kernel) (by decide +kernel)⟩
theorem kl_109 : Cond.methodLink RL 109 yX7_carryOut ∈ LW := LW_of 598 (by decide +kernel) (by decide +kernel)
theorem yl_X8_carryOut : YS yX8_carryOut cX8_carryOut 3 (some .int) 0 := ⟨LW_of 982 (by decide +kernel) (by decide +kernel), LW_of 50 (by decide +kernel) (by decide +kernel), by decide +kernel⟩
theorem wl_X8_carryOut : Cond.instanceMethod yX8_carryOut ∈ LW ∧ Cond.selects yX8_carryOut.cls yX8_carryOut yX8_carryOut ∈ LW := ⟨LW_of 980 (by decide +kernel) (by decide +kernel), LW_of 981 (by decide +kernel) (by decide +kernel)⟩
theorem kl_112 : Cond.methodLink RL 112 yX8_carryOut ∈ LW := LW_of 979 (by decide +kernel) (by decide +kernel)
theorem yl_X7_undo : YS yX7_undo cX7_undo 1 (some .int) 0 := ⟨LW_of 627 (by decide +kernel) (by decide +kernel), LW_of 45 (by decide +kernel) (by decide +kernel), by decide +kernel⟩
theorem wl_X7_undo : Cond.instanceMethod yX7_undo ∈ LW ∧ Cond.selects yX7_undo.cls yX7_undo yX7_undo ∈ LW := ⟨LW_of 625 (by decide +kernel) (by decide +kernel), LW_of 626 (by decide +kernel) (by decide +kernel)⟩
theorem kl_113 : Cond.methodLink RL 113 yX7_undo ∈ LW := LW_of 624 (by decide +kernel) (by decide +kernel)
theorem yl_X8_undo : YS yX8_undo cX8_undo 2 (some .int) 0 := ⟨LW_of 990 (by decide +kernel) (by decide +kernel), LW_of 50 (by decide +kernel) (by decide +kernel), by decide +kernel⟩
theorem wl_X8_undo : Cond.instanceMethod yX8_undo ∈ LW ∧ Cond.selects yX8_undo.cls yX8_undo yX8_undo ∈ LW := ⟨LW_of 988 (by decide +kernel) (by decide +kernel), LW_of 989 (by decide +kernel) (by decide +kernel)⟩
theorem kl_116 : Cond.methodLink RL 116 yX8_undo ∈ LW := LW_of 987 (by decide +kernel) (by decide +kernel)
theorem yl_X7_save : YS yX7_save cX7_save 2 (some .int) 1 := ⟨LW_of 639 (by decide +kernel) (by decide +kernel), LW_of 45 (by decide +kernel) (by decide +kernel), by decide +kernel⟩
theorem wl_X7_save : Cond.instanceMethod yX7_save ∈ LW ∧ Cond.selects yX7_save.cls yX7_save yX7_save ∈ LW := ⟨LW_of 637 (by decide +kernel) (by decide +kernel), LW_of 638 (by decide +kernel) (by decide +kernel)⟩
theorem kl_117 : Cond.methodLink RL 117 yX7_save ∈ LW := LW_of 636 (by decide +kernel) (by decide +kernel)
theorem yl_X8_save : YS yX8_save cX8_save 3 (some .int) 1 := ⟨LW_of 994 (by decide +kernel) (by decide +kernel), LW_of 50 (by decide +kernel) (by decide +kernel), by decide +kernel⟩
theorem wl_X8_save : Cond.instanceMethod yX8_save ∈ LW ∧ Cond.selects yX8_save.cls yX8_save yX8_save ∈ LW := ⟨LW_of 992 (by decide +kernel) (by decide +kernel), LW_of 993 (by decide +kernel) (by decide +kernel)⟩
theorem kl_120 : Cond.methodLink RL 120 yX8_save ∈ LW := LW_of 991 (by decide +kernel) (by decide +kernel)
theorem yl_X7_restore : YS yX7_restore cX7_restore 2 (some .int) 1 := ⟨LW_of 653 (by decide +kernel) (by decide +kernel), LW_of 45 (by decide +kernel) (by decide +kernel), by decide +kernel⟩
theorem wl_X7_restore : Cond.instanceMethod yX7_restore ∈ LW ∧ Cond.selects yX7_restore.cls yX7_restore yX7_restore ∈ LW := ⟨LW_of 651 (by decide +kernel) (by decide +kernel), LW_of 652 (by decide +kernel) (by decide +kernel)⟩
theorem kl_121 : Cond.methodLink RL 121 yX7_restore ∈ LW := LW_of 650 (by decide +kernel) (by decide +kernel)
theorem yl_X8_restore : YS yX8_restore cX8_restore 3 (some .int) 1 := ⟨LW_of 998 (by decide +kernel) (by decide +kernel), LW_of 50 (by decide +kernel) (by decide +kernel), by decide +kernel⟩
theorem wl_X8_restore : Cond.instanceMethod yX8_restore ∈ LW ∧ Cond.selects yX8_restore.cls yX8_restore yX8_restore ∈ LW := ⟨LW_of 996 (by decide +kernel) (by decide +kernel), LW_of 997 (by decide +kernel) (by decide +kernel)⟩
theorem kl_124 : Cond.methodLink RL 124 yX8_restore ∈ LW := LW_of 995 (by decide +kernel) (by decide +kernel)
abbrev lawL (E : EN) (b : Nat) (x : Int32) : List (Nat × Value) := [(0, .ref b), (1, .ref (eA E 0)), (2, .ref (eA E 12)), (3, .int x)]
section LW0
variable {E : EN} {A : Nat → Prop} {p : Program} {l : Launch} {e : Env} {s : State} {m : MethodId} {args : Array Value} {below : List Frame} {meth : Method} {c : Code} {Q : State → Prop} {own : String} {cc : ByteArray} {nL : Nat} {ret' : Option FieldType} {R : Room} {cells slots pc : Nat} {lv : List (Nat × Value)} {st : List Value} {h : Hp} {b L : Nat} {xs : Nat → Int32}
theorem V_sld (X : XC E own cc nL ret' A p s m args meth c) (hX : va_X b L xs s s.heap) (hbl : b < s.heap.size) (hbA : ¬ A b) {i : Int32} (hin : vp_in i L) (hd : decode cc pc = .ok (.iaload, 1)) (kk : V E nL A p l e R s m args below meth c cells slots Q (pc + 1) lv (.int (xs i.toNatClampNeg) :: st) h) : V E nL A p l e R s m args below meth c cells slots Q pc lv (.int i :: .ref b :: st) h := fun H locs ls hP hD hS hl => va_sld X.1 X.2.1 hX hbl hbA hS hin hd (kk H locs ls hP hD hS hl)
theorem V_slen (X : XC E own cc nL ret' A p s m args meth c) (hX : va_X b L xs s s.heap) (hbl : b < s.heap.size) (hbA : ¬ A b) (hd : decode cc pc = .ok (.arraylength, 1)) (kk : V E nL A p l e R s m args below meth c cells slots Q (pc + 1) lv (.int (Int32.ofNat L) :: st) h) : V E nL A p l e R s m args below meth c cells slots Q pc lv (.ref b :: st) h := fun H locs ls hP hD hS hl => va_slen X.1 X.2.1 hX hbl hbA hS hd (kk H locs ls hP hD hS hl)
end LW0
section LW1
variable {E : EN} {A : Nat → Prop} {p : Program} {l : Launch} {e : Env} {s : State} {m : MethodId} {args : Array Value} {below : List Frame} {meth : Method} {c : Code} {Q : State → Prop} {h : Hp} {u : St} {b L : Nat} {xs : Nat → Int32} {x : Int32}
theorem lw_set (hE : IW E) (X : XC E RL cL_law 4 ret A p s m args meth c) (hX : va_X b L xs s s.heap) (hbl : b < s.heap.size) (hbA : ¬ A b) (h1 : vp_in (x + 1) L) (h2 : vp_in (x + 2) L) (h3 : vp_in (x + 3) L) (h4 : vp_in (x + 4) L) (hC : RC h u) (hM : RM h u) (hS : SI u) (kk : ∀ (h' : Hp) (u' : St), RC h' u' → RM h' u' → SI u' → V E 4 A p l e room_1 s m args below meth c 22 8430 Q 890 (lawL E b x) [] h') : V E 4 A p l e room_1 s m args below meth c 22 8430 Q 152 (lawL E b x) [] h := by
  obtain ⟨v, g1, g2, u1, e1, e2, r1, r2, r3⟩ := op_set (xs (Int32.toNatClampNeg (x + 1))) (xs (Int32.toNatClampNeg (x + 2))) h u hC hM hS
  refine V_aload_n X 1 rfl dL_law_152 ?_
  refine V_aload_n X 0 rfl dL_law_153 ?_
  refine V_iload_n X 3 rfl dL_law_154 ?_
  refine V_iconst X (v := 1) (by decide) dL_law_155 ?_
  refine V_iadd X dL_law_156 ?_
  refine V_sld X hX hbl hbA h1 dL_law_157 ?_
  refine V_aload_n X 0 rfl dL_law_158 ?_
  refine V_iload_n X 3 rfl dL_law_159 ?_
  refine V_iconst X (v := 2) (by decide) dL_law_160 ?_
  refine V_iadd X dL_law_161 ?_
  refine V_sld X hX hbl hbA h2 dL_law_162 ?_
  refine V_callVi X (OB_0 hE) rfl rfl (f7_set_ok hE e1) yl_X7_set wl_X7_set kl_13 rfl rfl ⟨Nat.le_of_ble_eq_true rfl, Nat.le_of_ble_eq_true rfl⟩ ⟨Nat.le_of_ble_eq_true rfl, Nat.le_of_ble_eq_true rfl⟩ (Nat.le_of_ble_eq_true rfl) dL_law_163 ?_
  refine V_aload_n X 2 rfl dL_law_166 ?_
  refine V_aload_n X 0 rfl dL_law_167 ?_
  refine V_iload_n X 3 rfl dL_law_168 ?_
  refine V_iconst X (v := 1) (by decide) dL_law_169 ?_
  refine V_iadd X dL_law_170 ?_
  refine V_sld X hX hbl hbA h1 dL_law_171 ?_
  refine V_aload_n X 0 rfl dL_law_172 ?_
  refine V_iload_n X 3 rfl dL_law_173 ?_
  refine V_iconst X (v := 2) (by decide) dL_law_174 ?_
  refine V_iadd X dL_law_175 ?_
  refine V_sld X hX hbl hbA h2 dL_law_176 ?_
  refine V_callVi X (OB_12 hE) rfl rfl (f8_set_ok hE e2) yl_X8_set wl_X8_set kl_17 rfl rfl ⟨Nat.le_of_ble_eq_true rfl, Nat.le_of_ble_eq_true rfl⟩ ⟨Nat.le_of_ble_eq_true rfl, Nat.le_of_ble_eq_true rfl⟩ (Nat.le_of_ble_eq_true rfl) dL_law_177 ?_
  exact V_icmp_eq X (tgt := 890) (by decide) dL_law_180 (fun _ => kk g2 u1 r1 r2 r3) (fun w => absurd rfl w)
theorem lw_pattern (hE : IW E) (X : XC E RL cL_law 4 ret A p s m args meth c) (hX : va_X b L xs s s.heap) (hbl : b < s.heap.size) (hbA : ¬ A b) (h1 : vp_in (x + 1) L) (h2 : vp_in (x + 2) L) (h3 : vp_in (x + 3) L) (h4 : vp_in (x + 4) L) (hC : RC h u) (hM : RM h u) (hS : SI u) (kk : ∀ (h' : Hp) (u' : St), RC h' u' → RM h' u' → SI u' → V E 4 A p l e room_1 s m args below meth c 22 8430 Q 890 (lawL E b x) [] h') : V E 4 A p l e room_1 s m args below meth c 22 8430 Q 185 (lawL E b x) [] h := by
  obtain ⟨v, g1, g2, u1, e1, e2, r1, r2, r3⟩ := op_pattern (xs (Int32.toNatClampNeg (x + 1))) (xs (Int32.toNatClampNeg (x + 2))) h u hC hM hS
  refine V_aload_n X 1 rfl dL_law_185 ?_
  refine V_aload_n X 0 rfl dL_law_186 ?_
  refine V_iload_n X 3 rfl dL_law_187 ?_
  refine V_iconst X (v := 1) (by decide) dL_law_188 ?_
  refine V_iadd X dL_law_189 ?_
  refine V_sld X hX hbl hbA h1 dL_law_190 ?_
  refine V_aload_n X 0 rfl dL_law_191 ?_
  refine V_iload_n X 3 rfl dL_law_192 ?_
  refine V_iconst X (v := 2) (by decide) dL_law_193 ?_
  refine V_iadd X dL_law_194 ?_
  refine V_sld X hX hbl hbA h2 dL_law_195 ?_
  refine V_callVi X (OB_0 hE) rfl rfl (f7_pattern_ok hE e1) yl_X7_pattern wl_X7_pattern kl_18 rfl rfl ⟨Nat.le_of_ble_eq_true rfl, Nat.le_of_ble_eq_true rfl⟩ ⟨Nat.le_of_ble_eq_true rfl, Nat.le_of_ble_eq_true rfl⟩ (Nat.le_of_ble_eq_true rfl) dL_law_196 ?_
  refine V_aload_n X 2 rfl dL_law_199 ?_
  refine V_aload_n X 0 rfl dL_law_200 ?_
  refine V_iload_n X 3 rfl dL_law_201 ?_
  refine V_iconst X (v := 1) (by decide) dL_law_202 ?_
  refine V_iadd X dL_law_203 ?_
  refine V_sld X hX hbl hbA h1 dL_law_204 ?_
  refine V_aload_n X 0 rfl dL_law_205 ?_
  refine V_iload_n X 3 rfl dL_law_206 ?_
  refine V_iconst X (v := 2) (by decide) dL_law_207 ?_
  refine V_iadd X dL_law_208 ?_
  refine V_sld X hX hbl hbA h2 dL_law_209 ?_
  refine V_callVi X (OB_12 hE) rfl rfl (f8_pattern_ok hE e2) yl_X8_pattern wl_X8_pattern kl_21 rfl rfl ⟨Nat.le_of_ble_eq_true rfl, Nat.le_of_ble_eq_true rfl⟩ ⟨Nat.le_of_ble_eq_true rfl, Nat.le_of_ble_eq_true rfl⟩ (Nat.le_of_ble_eq_true rfl) dL_law_210 ?_
  exact V_icmp_eq X (tgt := 890) (by decide) dL_law_213 (fun _ => kk g2 u1 r1 r2 r3) (fun w => absurd rfl w)
theorem lw_take (hE : IW E) (X : XC E RL cL_law 4 ret A p s m args meth c) (hX : va_X b L xs s s.heap) (hbl : b < s.heap.size) (hbA : ¬ A b) (h1 : vp_in (x + 1) L) (h2 : vp_in (x + 2) L) (h3 : vp_in (x + 3) L) (h4 : vp_in (x + 4) L) (hC : RC h u) (hM : RM h u) (hS : SI u) (kk : ∀ (h' : Hp) (u' : St), RC h' u' → RM h' u' → SI u' → V E 4 A p l e room_1 s m args below meth c 22 8430 Q 890 (lawL E b x) [] h') : V E 4 A p l e room_1 s m args below meth c 22 8430 Q 218 (lawL E b x) [] h := by
  obtain ⟨v, g1, g2, u1, e1, e2, r1, r2, r3⟩ := op_take (xs (Int32.toNatClampNeg (x + 1))) (xs (Int32.toNatClampNeg (x + 2))) h u hC hM hS
  refine V_aload_n X 1 rfl dL_law_218 ?_
  refine V_aload_n X 0 rfl dL_law_219 ?_
  refine V_iload_n X 3 rfl dL_law_220 ?_
  refine V_iconst X (v := 1) (by decide) dL_law_221 ?_
  refine V_iadd X dL_law_222 ?_
  refine V_sld X hX hbl hbA h1 dL_law_223 ?_
  refine V_aload_n X 0 rfl dL_law_224 ?_
  refine V_iload_n X 3 rfl dL_law_225 ?_
  refine V_iconst X (v := 2) (by decide) dL_law_226 ?_
  refine V_iadd X dL_law_227 ?_
  refine V_sld X hX hbl hbA h2 dL_law_228 ?_
  refine V_callVi X (OB_0 hE) rfl rfl (f7_take_ok hE e1) yl_X7_take wl_X7_take kl_22 rfl rfl ⟨Nat.le_of_ble_eq_true rfl, Nat.le_of_ble_eq_true rfl⟩ ⟨Nat.le_of_ble_eq_true rfl, Nat.le_of_ble_eq_true rfl⟩ (Nat.le_of_ble_eq_true rfl) dL_law_229 ?_
  refine V_aload_n X 2 rfl dL_law_232 ?_
  refine V_aload_n X 0 rfl dL_law_233 ?_
  refine V_iload_n X 3 rfl dL_law_234 ?_
  refine V_iconst X (v := 1) (by decide) dL_law_235 ?_
  refine V_iadd X dL_law_236 ?_
  refine V_sld X hX hbl hbA h1 dL_law_237 ?_
  refine V_aload_n X 0 rfl dL_law_238 ?_
  refine V_iload_n X 3 rfl dL_law_239 ?_
  refine V_iconst X (v := 2) (by decide) dL_law_240 ?_
  refine V_iadd X dL_law_241 ?_
  refine V_sld X hX hbl hbA h2 dL_law_242 ?_
  refine V_callVi X (OB_12 hE) rfl rfl (f8_take_ok hE e2) yl_X8_take wl_X8_take kl_25 rfl rfl ⟨Nat.le_of_ble_eq_true rfl, Nat.le_of_ble_eq_true rfl⟩ ⟨Nat.le_of_ble_eq_true rfl, Nat.le_of_ble_eq_true rfl⟩ (Nat.le_of_ble_eq_true rfl) dL_law_243 ?_
  exact V_icmp_eq X (tgt := 890) (by decide) dL_law_246 (fun _ => kk g2 u1 r1 r2 r3) (fun w => absurd rfl w)
theorem lw_fill (hE : IW E) (X : XC E RL cL_law 4 ret A p s m args meth c) (hX : va_X b L xs s s.heap) (hbl : b < s.heap.size) (hbA : ¬ A b) (h1 : vp_in (x + 1) L) (h2 : vp_in (x + 2) L) (h3 : vp_in (x + 3) L) (h4 : vp_in (x + 4) L) (hC : RC h u) (hM : RM h u) (hS : SI u) (kk : ∀ (h' : Hp) (u' : St), RC h' u' → RM h' u' → SI u' → V E 4 A p l e room_1 s m args below meth c 22 8430 Q 890 (lawL E b x) [] h') : V E 4 A p l e room_1 s m args below meth c 22 8430 Q 251 (lawL E b x) [] h := by
  obtain ⟨v, g1, g2, u1, e1, e2, r1, r2, r3⟩ := op_fill (xs (Int32.toNatClampNeg (x + 1))) (xs (Int32.toNatClampNeg (x + 2))) h u hC hM hS
  refine V_aload_n X 1 rfl dL_law_251 ?_
  refine V_aload_n X 0 rfl dL_law_252 ?_
  refine V_iload_n X 3 rfl dL_law_253 ?_
  refine V_iconst X (v := 1) (by decide) dL_law_254 ?_
  refine V_iadd X dL_law_255 ?_
  refine V_sld X hX hbl hbA h1 dL_law_256 ?_
  refine V_aload_n X 0 rfl dL_law_257 ?_
  refine V_iload_n X 3 rfl dL_law_258 ?_
  refine V_iconst X (v := 2) (by decide) dL_law_259 ?_
  refine V_iadd X dL_law_260 ?_
  refine V_sld X hX hbl hbA h2 dL_law_261 ?_
  refine V_callVi X (OB_0 hE) rfl rfl (f7_fill_ok hE e1) yl_X7_fill wl_X7_fill kl_26 rfl rfl ⟨Nat.le_of_ble_eq_true rfl, Nat.le_of_ble_eq_true rfl⟩ ⟨Nat.le_of_ble_eq_true rfl, Nat.le_of_ble_eq_true rfl⟩ (Nat.le_of_ble_eq_true rfl) dL_law_262 ?_
  refine V_aload_n X 2 rfl dL_law_265 ?_
  refine V_aload_n X 0 rfl dL_law_266 ?_
  refine V_iload_n X 3 rfl dL_law_267 ?_
  refine V_iconst X (v := 1) (by decide) dL_law_268 ?_
  refine V_iadd X dL_law_269 ?_
  refine V_sld X hX hbl hbA h1 dL_law_270 ?_
  refine V_aload_n X 0 rfl dL_law_271 ?_
  refine V_iload_n X 3 rfl dL_law_272 ?_
  refine V_iconst X (v := 2) (by decide) dL_law_273 ?_
  refine V_iadd X dL_law_274 ?_
  refine V_sld X hX hbl hbA h2 dL_law_275 ?_
  refine V_callVi X (OB_12 hE) rfl rfl (f8_fill_ok hE e2) yl_X8_fill wl_X8_fill kl_29 rfl rfl ⟨Nat.le_of_ble_eq_true rfl, Nat.le_of_ble_eq_true rfl⟩ ⟨Nat.le_of_ble_eq_true rfl, Nat.le_of_ble_eq_true rfl⟩ (Nat.le_of_ble_eq_true rfl) dL_law_276 ?_
  exact V_icmp_eq X (tgt := 890) (by decide) dL_law_279 (fun _ => kk g2 u1 r1 r2 r3) (fun w => absurd rfl w)
theorem lw_pour (hE : IW E) (X : XC E RL cL_law 4 ret A p s m args meth c) (hX : va_X b L xs s s.heap) (hbl : b < s.heap.size) (hbA : ¬ A b) (h1 : vp_in (x + 1) L) (h2 : vp_in (x + 2) L) (h3 : vp_in (x + 3) L) (h4 : vp_in (x + 4) L) (hC : RC h u) (hM : RM h u) (hS : SI u) (kk : ∀ (h' : Hp) (u' : St), RC h' u' → RM h' u' → SI u' → V E 4 A p l e room_1 s m args below meth c 22 8430 Q 890 (lawL E b x) [] h') : V E 4 A p l e room_1 s m args below meth c 22 8430 Q 284 (lawL E b x) [] h := by
  obtain ⟨v, g1, g2, u1, e1, e2, r1, r2, r3⟩ := op_pour (xs (Int32.toNatClampNeg (x + 1))) (xs (Int32.toNatClampNeg (x + 2))) (xs (Int32.toNatClampNeg (x + 3))) (xs (Int32.toNatClampNeg (x + 4))) h u hC hM hS
  refine V_aload_n X 1 rfl dL_law_284 ?_
  refine V_aload_n X 0 rfl dL_law_285 ?_
  refine V_iload_n X 3 rfl dL_law_286 ?_
  refine V_iconst X (v := 1) (by decide) dL_law_287 ?_
  refine V_iadd X dL_law_288 ?_
  refine V_sld X hX hbl hbA h1 dL_law_289 ?_
  refine V_aload_n X 0 rfl dL_law_290 ?_
  refine V_iload_n X 3 rfl dL_law_291 ?_
  refine V_iconst X (v := 2) (by decide) dL_law_292 ?_
  refine V_iadd X dL_law_293 ?_
  refine V_sld X hX hbl hbA h2 dL_law_294 ?_
  refine V_aload_n X 0 rfl dL_law_295 ?_
  refine V_iload_n X 3 rfl dL_law_296 ?_
  refine V_iconst X (v := 3) (by decide) dL_law_297 ?_
  refine V_iadd X dL_law_298 ?_
  refine V_sld X hX hbl hbA h3 dL_law_299 ?_
  refine V_aload_n X 0 rfl dL_law_300 ?_
  refine V_iload_n X 3 rfl dL_law_301 ?_
  refine V_iconst X (v := 4) (by decide) dL_law_302 ?_
  refine V_iadd X dL_law_303 ?_
  refine V_sld X hX hbl hbA h4 dL_law_304 ?_
  refine V_callVi X (OB_0 hE) rfl rfl (f7_pour_ok hE e1) yl_X7_pour wl_X7_pour kl_30 rfl rfl ⟨Nat.le_of_ble_eq_true rfl, Nat.le_of_ble_eq_true rfl⟩ ⟨Nat.le_of_ble_eq_true rfl, Nat.le_of_ble_eq_true rfl⟩ (Nat.le_of_ble_eq_true rfl) dL_law_305 ?_
  refine V_aload_n X 2 rfl dL_law_308 ?_
  refine V_aload_n X 0 rfl dL_law_309 ?_
  refine V_iload_n X 3 rfl dL_law_310 ?_
  refine V_iconst X (v := 1) (by decide) dL_law_311 ?_
  refine V_iadd X dL_law_312 ?_
  refine V_sld X hX hbl hbA h1 dL_law_313 ?_
  refine V_aload_n X 0 rfl dL_law_314 ?_
  refine V_iload_n X 3 rfl dL_law_315 ?_
  refine V_iconst X (v := 2) (by decide) dL_law_316 ?_
  refine V_iadd X dL_law_317 ?_
  refine V_sld X hX hbl hbA h2 dL_law_318 ?_
  refine V_aload_n X 0 rfl dL_law_319 ?_
  refine V_iload_n X 3 rfl dL_law_320 ?_
  refine V_iconst X (v := 3) (by decide) dL_law_321 ?_
  refine V_iadd X dL_law_322 ?_
  refine V_sld X hX hbl hbA h3 dL_law_323 ?_
  refine V_aload_n X 0 rfl dL_law_324 ?_
  refine V_iload_n X 3 rfl dL_law_325 ?_
  refine V_iconst X (v := 4) (by decide) dL_law_326 ?_
  refine V_iadd X dL_law_327 ?_
  refine V_sld X hX hbl hbA h4 dL_law_328 ?_
  refine V_callVi X (OB_12 hE) rfl rfl (f8_pour_ok hE e2) yl_X8_pour wl_X8_pour kl_34 rfl rfl ⟨Nat.le_of_ble_eq_true rfl, Nat.le_of_ble_eq_true rfl⟩ ⟨Nat.le_of_ble_eq_true rfl, Nat.le_of_ble_eq_true rfl⟩ (Nat.le_of_ble_eq_true rfl) dL_law_329 ?_
  exact V_icmp_eq X (tgt := 890) (by decide) dL_law_332 (fun _ => kk g2 u1 r1 r2 r3) (fun w => absurd rfl w)
theorem lw_scrape (hE : IW E) (X : XC E RL cL_law 4 ret A p s m args meth c) (hX : va_X b L xs s s.heap) (hbl : b < s.heap.size) (hbA : ¬ A b) (h1 : vp_in (x + 1) L) (h2 : vp_in (x + 2) L) (h3 : vp_in (x + 3) L) (h4 : vp_in (x + 4) L) (hC : RC h u) (hM : RM h u) (hS : SI u) (kk : ∀ (h' : Hp) (u' : St), RC h' u' → RM h' u' → SI u' → V E 4 A p l e room_1 s m args below meth c 22 8430 Q 890 (lawL E b x) [] h') : V E 4 A p l e room_1 s m args below meth c 22 8430 Q 337 (lawL E b x) [] h := by
  obtain ⟨v, g1, g2, u1, e1, e2, r1, r2, r3⟩ := op_scrape (xs (Int32.toNatClampNeg (x + 1))) (xs (Int32.toNatClampNeg (x + 2))) (xs (Int32.toNatClampNeg (x + 3))) h u hC hM hS
  refine V_aload_n X 1 rfl dL_law_337 ?_
  refine V_aload_n X 0 rfl dL_law_338 ?_
  refine V_iload_n X 3 rfl dL_law_339 ?_
  refine V_iconst X (v := 1) (by decide) dL_law_340 ?_
  refine V_iadd X dL_law_341 ?_
  refine V_sld X hX hbl hbA h1 dL_law_342 ?_
  refine V_aload_n X 0 rfl dL_law_343 ?_
  refine V_iload_n X 3 rfl dL_law_344 ?_
  refine V_iconst X (v := 2) (by decide) dL_law_345 ?_
  refine V_iadd X dL_law_346 ?_
  refine V_sld X hX hbl hbA h2 dL_law_347 ?_
  refine V_aload_n X 0 rfl dL_law_348 ?_
  refine V_iload_n X 3 rfl dL_law_349 ?_
  refine V_iconst X (v := 3) (by decide) dL_law_350 ?_
  refine V_iadd X dL_law_351 ?_
  refine V_sld X hX hbl hbA h3 dL_law_352 ?_
  refine V_callVi X (OB_0 hE) rfl rfl (f7_scrape_ok hE e1) yl_X7_scrape wl_X7_scrape kl_35 rfl rfl ⟨Nat.le_of_ble_eq_true rfl, Nat.le_of_ble_eq_true rfl⟩ ⟨Nat.le_of_ble_eq_true rfl, Nat.le_of_ble_eq_true rfl⟩ (Nat.le_of_ble_eq_true rfl) dL_law_353 ?_
  refine V_aload_n X 2 rfl dL_law_356 ?_
  refine V_aload_n X 0 rfl dL_law_357 ?_
  refine V_iload_n X 3 rfl dL_law_358 ?_
  refine V_iconst X (v := 1) (by decide) dL_law_359 ?_
  refine V_iadd X dL_law_360 ?_
  refine V_sld X hX hbl hbA h1 dL_law_361 ?_
  refine V_aload_n X 0 rfl dL_law_362 ?_
  refine V_iload_n X 3 rfl dL_law_363 ?_
  refine V_iconst X (v := 2) (by decide) dL_law_364 ?_
  refine V_iadd X dL_law_365 ?_
  refine V_sld X hX hbl hbA h2 dL_law_366 ?_
  refine V_aload_n X 0 rfl dL_law_367 ?_
  refine V_iload_n X 3 rfl dL_law_368 ?_
  refine V_iconst X (v := 3) (by decide) dL_law_369 ?_
  refine V_iadd X dL_law_370 ?_
  refine V_sld X hX hbl hbA h3 dL_law_371 ?_
  refine V_callVi X (OB_12 hE) rfl rfl (f8_scrape_ok hE e2) yl_X8_scrape wl_X8_scrape kl_39 rfl rfl ⟨Nat.le_of_ble_eq_true rfl, Nat.le_of_ble_eq_true rfl⟩ ⟨Nat.le_of_ble_eq_true rfl, Nat.le_of_ble_eq_true rfl⟩ (Nat.le_of_ble_eq_true rfl) dL_law_372 ?_
  exact V_icmp_eq X (tgt := 890) (by decide) dL_law_375 (fun _ => kk g2 u1 r1 r2 r3) (fun w => absurd rfl w)
theorem lw_breathe (hE : IW E) (X : XC E RL cL_law 4 ret A p s m args meth c) (hX : va_X b L xs s s.heap) (hbl : b < s.heap.size) (hbA : ¬ A b) (h1 : vp_in (x + 1) L) (h2 : vp_in (x + 2) L) (h3 : vp_in (x + 3) L) (h4 : vp_in (x + 4) L) (hC : RC h u) (hM : RM h u) (hS : SI u) (kk : ∀ (h' : Hp) (u' : St), RC h' u' → RM h' u' → SI u' → V E 4 A p l e room_1 s m args below meth c 22 8430 Q 890 (lawL E b x) [] h') : V E 4 A p l e room_1 s m args below meth c 22 8430 Q 380 (lawL E b x) [] h := by
  obtain ⟨v, g1, g2, u1, e1, e2, r1, r2, r3⟩ := op_breathe (xs (Int32.toNatClampNeg (x + 1))) (xs (Int32.toNatClampNeg (x + 2))) h u hC hM hS
  refine V_aload_n X 1 rfl dL_law_380 ?_
  refine V_aload_n X 0 rfl dL_law_381 ?_
  refine V_iload_n X 3 rfl dL_law_382 ?_
  refine V_iconst X (v := 1) (by decide) dL_law_383 ?_
  refine V_iadd X dL_law_384 ?_
  refine V_sld X hX hbl hbA h1 dL_law_385 ?_
  refine V_aload_n X 0 rfl dL_law_386 ?_
  refine V_iload_n X 3 rfl dL_law_387 ?_
  refine V_iconst X (v := 2) (by decide) dL_law_388 ?_
  refine V_iadd X dL_law_389 ?_
  refine V_sld X hX hbl hbA h2 dL_law_390 ?_
  refine V_callVi X (OB_0 hE) rfl rfl (f7_breathe_ok hE e1) yl_X7_breathe wl_X7_breathe kl_40 rfl rfl ⟨Nat.le_of_ble_eq_true rfl, Nat.le_of_ble_eq_true rfl⟩ ⟨Nat.le_of_ble_eq_true rfl, Nat.le_of_ble_eq_true rfl⟩ (Nat.le_of_ble_eq_true rfl) dL_law_391 ?_
  refine V_aload_n X 2 rfl dL_law_394 ?_
  refine V_aload_n X 0 rfl dL_law_395 ?_
  refine V_iload_n X 3 rfl dL_law_396 ?_
  refine V_iconst X (v := 1) (by decide) dL_law_397 ?_
  refine V_iadd X dL_law_398 ?_
  refine V_sld X hX hbl hbA h1 dL_law_399 ?_
  refine V_aload_n X 0 rfl dL_law_400 ?_
  refine V_iload_n X 3 rfl dL_law_401 ?_
  refine V_iconst X (v := 2) (by decide) dL_law_402 ?_
  refine V_iadd X dL_law_403 ?_
  refine V_sld X hX hbl hbA h2 dL_law_404 ?_
  refine V_callVi X (OB_12 hE) rfl rfl (f8_breathe_ok hE e2) yl_X8_breathe wl_X8_breathe kl_43 rfl rfl ⟨Nat.le_of_ble_eq_true rfl, Nat.le_of_ble_eq_true rfl⟩ ⟨Nat.le_of_ble_eq_true rfl, Nat.le_of_ble_eq_true rfl⟩ (Nat.le_of_ble_eq_true rfl) dL_law_405 ?_
  exact V_icmp_eq X (tgt := 890) (by decide) dL_law_408 (fun _ => kk g2 u1 r1 r2 r3) (fun w => absurd rfl w)
theorem lw_close (hE : IW E) (X : XC E RL cL_law 4 ret A p s m args meth c) (hX : va_X b L xs s s.heap) (hbl : b < s.heap.size) (hbA : ¬ A b) (h1 : vp_in (x + 1) L) (h2 : vp_in (x + 2) L) (h3 : vp_in (x + 3) L) (h4 : vp_in (x + 4) L) (hC : RC h u) (hM : RM h u) (hS : SI u) (kk : ∀ (h' : Hp) (u' : St), RC h' u' → RM h' u' → SI u' → V E 4 A p l e room_1 s m args below meth c 22 8430 Q 890 (lawL E b x) [] h') : V E 4 A p l e room_1 s m args below meth c 22 8430 Q 413 (lawL E b x) [] h := by
  obtain ⟨v, g1, g2, u1, e1, e2, r1, r2, r3⟩ := op_close h u hC hM hS
  refine V_aload_n X 1 rfl dL_law_413 ?_
  refine V_callVi X (OB_0 hE) rfl rfl (f7_close_ok hE e1) yl_X7_close wl_X7_close kl_44 rfl rfl ⟨Nat.le_of_ble_eq_true rfl, Nat.le_of_ble_eq_true rfl⟩ ⟨Nat.le_of_ble_eq_true rfl, Nat.le_of_ble_eq_true rfl⟩ (Nat.le_of_ble_eq_true rfl) dL_law_414 ?_
  refine V_aload_n X 2 rfl dL_law_417 ?_
  refine V_callVi X (OB_12 hE) rfl rfl (f8_close_ok hE e2) yl_X8_close wl_X8_close kl_48 rfl rfl ⟨Nat.le_of_ble_eq_true rfl, Nat.le_of_ble_eq_true rfl⟩ ⟨Nat.le_of_ble_eq_true rfl, Nat.le_of_ble_eq_true rfl⟩ (Nat.le_of_ble_eq_true rfl) dL_law_418 ?_
  exact V_icmp_eq X (tgt := 890) (by decide) dL_law_421 (fun _ => kk g2 u1 r1 r2 r3) (fun w => absurd rfl w)
theorem lw_sweep (hE : IW E) (X : XC E RL cL_law 4 ret A p s m args meth c) (hX : va_X b L xs s s.heap) (hbl : b < s.heap.size) (hbA : ¬ A b) (h1 : vp_in (x + 1) L) (h2 : vp_in (x + 2) L) (h3 : vp_in (x + 3) L) (h4 : vp_in (x + 4) L) (hC : RC h u) (hM : RM h u) (hS : SI u) (kk : ∀ (h' : Hp) (u' : St), RC h' u' → RM h' u' → SI u' → V E 4 A p l e room_1 s m args below meth c 22 8430 Q 890 (lawL E b x) [] h') : V E 4 A p l e room_1 s m args below meth c 22 8430 Q 426 (lawL E b x) [] h := by
  obtain ⟨v, g1, g2, u1, e1, e2, r1, r2, r3⟩ := op_sweep h u hC hM hS
  refine V_aload_n X 1 rfl dL_law_426 ?_
  refine V_callVi X (OB_0 hE) rfl rfl (f7_sweep_ok hE e1) yl_X7_sweep wl_X7_sweep kl_49 rfl rfl ⟨Nat.le_of_ble_eq_true rfl, Nat.le_of_ble_eq_true rfl⟩ ⟨Nat.le_of_ble_eq_true rfl, Nat.le_of_ble_eq_true rfl⟩ (Nat.le_of_ble_eq_true rfl) dL_law_427 ?_
  refine V_aload_n X 2 rfl dL_law_430 ?_
  refine V_callVi X (OB_12 hE) rfl rfl (f8_sweep_ok hE e2) yl_X8_sweep wl_X8_sweep kl_52 rfl rfl ⟨Nat.le_of_ble_eq_true rfl, Nat.le_of_ble_eq_true rfl⟩ ⟨Nat.le_of_ble_eq_true rfl, Nat.le_of_ble_eq_true rfl⟩ (Nat.le_of_ble_eq_true rfl) dL_law_431 ?_
  exact V_icmp_eq X (tgt := 890) (by decide) dL_law_434 (fun _ => kk g2 u1 r1 r2 r3) (fun w => absurd rfl w)
theorem lw_at (hE : IW E) (X : XC E RL cL_law 4 ret A p s m args meth c) (hX : va_X b L xs s s.heap) (hbl : b < s.heap.size) (hbA : ¬ A b) (h1 : vp_in (x + 1) L) (h2 : vp_in (x + 2) L) (h3 : vp_in (x + 3) L) (h4 : vp_in (x + 4) L) (hC : RC h u) (hM : RM h u) (hS : SI u) (kk : ∀ (h' : Hp) (u' : St), RC h' u' → RM h' u' → SI u' → V E 4 A p l e room_1 s m args below meth c 22 8430 Q 890 (lawL E b x) [] h') : V E 4 A p l e room_1 s m args below meth c 22 8430 Q 439 (lawL E b x) [] h := by
  obtain ⟨v, g1, g2, u1, e1, e2, r1, r2, r3⟩ := op_at (xs (Int32.toNatClampNeg (x + 1))) (xs (Int32.toNatClampNeg (x + 2))) (xs (Int32.toNatClampNeg (x + 3))) (xs (Int32.toNatClampNeg (x + 4))) h u hC hM hS
  refine V_aload_n X 1 rfl dL_law_439 ?_
  refine V_aload_n X 0 rfl dL_law_440 ?_
  refine V_iload_n X 3 rfl dL_law_441 ?_
  refine V_iconst X (v := 1) (by decide) dL_law_442 ?_
  refine V_iadd X dL_law_443 ?_
  refine V_sld X hX hbl hbA h1 dL_law_444 ?_
  refine V_aload_n X 0 rfl dL_law_445 ?_
  refine V_iload_n X 3 rfl dL_law_446 ?_
  refine V_iconst X (v := 2) (by decide) dL_law_447 ?_
  refine V_iadd X dL_law_448 ?_
  refine V_sld X hX hbl hbA h2 dL_law_449 ?_
  refine V_aload_n X 0 rfl dL_law_450 ?_
  refine V_iload_n X 3 rfl dL_law_451 ?_
  refine V_iconst X (v := 3) (by decide) dL_law_452 ?_
  refine V_iadd X dL_law_453 ?_
  refine V_sld X hX hbl hbA h3 dL_law_454 ?_
  refine V_aload_n X 0 rfl dL_law_455 ?_
  refine V_iload_n X 3 rfl dL_law_456 ?_
  refine V_iconst X (v := 4) (by decide) dL_law_457 ?_
  refine V_iadd X dL_law_458 ?_
  refine V_sld X hX hbl hbA h4 dL_law_459 ?_
  refine V_callVi X (OB_0 hE) rfl rfl (f7_at_ok hE e1) yl_X7_at wl_X7_at kl_53 rfl rfl ⟨Nat.le_of_ble_eq_true rfl, Nat.le_of_ble_eq_true rfl⟩ ⟨Nat.le_of_ble_eq_true rfl, Nat.le_of_ble_eq_true rfl⟩ (Nat.le_of_ble_eq_true rfl) dL_law_460 ?_
  refine V_aload_n X 2 rfl dL_law_463 ?_
  refine V_aload_n X 0 rfl dL_law_464 ?_
  refine V_iload_n X 3 rfl dL_law_465 ?_
  refine V_iconst X (v := 1) (by decide) dL_law_466 ?_
  refine V_iadd X dL_law_467 ?_
  refine V_sld X hX hbl hbA h1 dL_law_468 ?_
  refine V_aload_n X 0 rfl dL_law_469 ?_
  refine V_iload_n X 3 rfl dL_law_470 ?_
  refine V_iconst X (v := 2) (by decide) dL_law_471 ?_
  refine V_iadd X dL_law_472 ?_
  refine V_sld X hX hbl hbA h2 dL_law_473 ?_
  refine V_aload_n X 0 rfl dL_law_474 ?_
  refine V_iload_n X 3 rfl dL_law_475 ?_
  refine V_iconst X (v := 3) (by decide) dL_law_476 ?_
  refine V_iadd X dL_law_477 ?_
  refine V_sld X hX hbl hbA h3 dL_law_478 ?_
  refine V_aload_n X 0 rfl dL_law_479 ?_
  refine V_iload_n X 3 rfl dL_law_480 ?_
  refine V_iconst X (v := 4) (by decide) dL_law_481 ?_
  refine V_iadd X dL_law_482 ?_
  refine V_sld X hX hbl hbA h4 dL_law_483 ?_
  refine V_callVi X (OB_12 hE) rfl rfl (f8_at_ok hE e2) yl_X8_at wl_X8_at kl_56 rfl rfl ⟨Nat.le_of_ble_eq_true rfl, Nat.le_of_ble_eq_true rfl⟩ ⟨Nat.le_of_ble_eq_true rfl, Nat.le_of_ble_eq_true rfl⟩ (Nat.le_of_ble_eq_true rfl) dL_law_484 ?_
  exact V_icmp_eq X (tgt := 890) (by decide) dL_law_487 (fun _ => kk g2 u1 r1 r2 r3) (fun w => absurd rfl w)
theorem lw_ofRing (hE : IW E) (X : XC E RL cL_law 4 ret A p s m args meth c) (hX : va_X b L xs s s.heap) (hbl : b < s.heap.size) (hbA : ¬ A b) (h1 : vp_in (x + 1) L) (h2 : vp_in (x + 2) L) (h3 : vp_in (x + 3) L) (h4 : vp_in (x + 4) L) (hC : RC h u) (hM : RM h u) (hS : SI u) (kk : ∀ (h' : Hp) (u' : St), RC h' u' → RM h' u' → SI u' → V E 4 A p l e room_1 s m args below meth c 22 8430 Q 890 (lawL E b x) [] h') : V E 4 A p l e room_1 s m args below meth c 22 8430 Q 492 (lawL E b x) [] h := by
  obtain ⟨v, g1, g2, u1, e1, e2, r1, r2, r3⟩ := op_ofRing (xs (Int32.toNatClampNeg (x + 1))) (xs (Int32.toNatClampNeg (x + 2))) h u hC hM hS
  refine V_aload_n X 1 rfl dL_law_492 ?_
  refine V_aload_n X 0 rfl dL_law_493 ?_
  refine V_iload_n X 3 rfl dL_law_494 ?_
  refine V_iconst X (v := 1) (by decide) dL_law_495 ?_
  refine V_iadd X dL_law_496 ?_
  refine V_sld X hX hbl hbA h1 dL_law_497 ?_
  refine V_aload_n X 0 rfl dL_law_498 ?_
  refine V_iload_n X 3 rfl dL_law_499 ?_
  refine V_iconst X (v := 2) (by decide) dL_law_500 ?_
  refine V_iadd X dL_law_501 ?_
  refine V_sld X hX hbl hbA h2 dL_law_502 ?_
  refine V_callVi X (OB_0 hE) rfl rfl (f7_ofRing_ok hE e1) yl_X7_ofRing wl_X7_ofRing kl_57 rfl rfl ⟨Nat.le_of_ble_eq_true rfl, Nat.le_of_ble_eq_true rfl⟩ ⟨Nat.le_of_ble_eq_true rfl, Nat.le_of_ble_eq_true rfl⟩ (Nat.le_of_ble_eq_true rfl) dL_law_503 ?_
  refine V_aload_n X 2 rfl dL_law_506 ?_
  refine V_aload_n X 0 rfl dL_law_507 ?_
  refine V_iload_n X 3 rfl dL_law_508 ?_
  refine V_iconst X (v := 1) (by decide) dL_law_509 ?_
  refine V_iadd X dL_law_510 ?_
  refine V_sld X hX hbl hbA h1 dL_law_511 ?_
  refine V_aload_n X 0 rfl dL_law_512 ?_
  refine V_iload_n X 3 rfl dL_law_513 ?_
  refine V_iconst X (v := 2) (by decide) dL_law_514 ?_
  refine V_iadd X dL_law_515 ?_
  refine V_sld X hX hbl hbA h2 dL_law_516 ?_
  refine V_callVi X (OB_12 hE) rfl rfl (f8_ofRing_ok hE e2) yl_X8_ofRing wl_X8_ofRing kl_60 rfl rfl ⟨Nat.le_of_ble_eq_true rfl, Nat.le_of_ble_eq_true rfl⟩ ⟨Nat.le_of_ble_eq_true rfl, Nat.le_of_ble_eq_true rfl⟩ (Nat.le_of_ble_eq_true rfl) dL_law_517 ?_
  exact V_icmp_eq X (tgt := 890) (by decide) dL_law_520 (fun _ => kk g2 u1 r1 r2 r3) (fun w => absurd rfl w)
theorem lw_ofQuarter (hE : IW E) (X : XC E RL cL_law 4 ret A p s m args meth c) (hX : va_X b L xs s s.heap) (hbl : b < s.heap.size) (hbA : ¬ A b) (h1 : vp_in (x + 1) L) (h2 : vp_in (x + 2) L) (h3 : vp_in (x + 3) L) (h4 : vp_in (x + 4) L) (hC : RC h u) (hM : RM h u) (hS : SI u) (kk : ∀ (h' : Hp) (u' : St), RC h' u' → RM h' u' → SI u' → V E 4 A p l e room_1 s m args below meth c 22 8430 Q 890 (lawL E b x) [] h') : V E 4 A p l e room_1 s m args below meth c 22 8430 Q 525 (lawL E b x) [] h := by
  obtain ⟨v, g1, g2, u1, e1, e2, r1, r2, r3⟩ := op_ofQuarter (xs (Int32.toNatClampNeg (x + 1))) (xs (Int32.toNatClampNeg (x + 2))) h u hC hM hS
  refine V_aload_n X 1 rfl dL_law_525 ?_
  refine V_aload_n X 0 rfl dL_law_526 ?_
  refine V_iload_n X 3 rfl dL_law_527 ?_
  refine V_iconst X (v := 1) (by decide) dL_law_528 ?_
  refine V_iadd X dL_law_529 ?_
  refine V_sld X hX hbl hbA h1 dL_law_530 ?_
  refine V_aload_n X 0 rfl dL_law_531 ?_
  refine V_iload_n X 3 rfl dL_law_532 ?_
  refine V_iconst X (v := 2) (by decide) dL_law_533 ?_
  refine V_iadd X dL_law_534 ?_
  refine V_sld X hX hbl hbA h2 dL_law_535 ?_
  refine V_callVi X (OB_0 hE) rfl rfl (f7_ofQuarter_ok hE e1) yl_X7_ofQuarter wl_X7_ofQuarter kl_61 rfl rfl ⟨Nat.le_of_ble_eq_true rfl, Nat.le_of_ble_eq_true rfl⟩ ⟨Nat.le_of_ble_eq_true rfl, Nat.le_of_ble_eq_true rfl⟩ (Nat.le_of_ble_eq_true rfl) dL_law_536 ?_
  refine V_aload_n X 2 rfl dL_law_539 ?_
  refine V_aload_n X 0 rfl dL_law_540 ?_
  refine V_iload_n X 3 rfl dL_law_541 ?_
  refine V_iconst X (v := 1) (by decide) dL_law_542 ?_
  refine V_iadd X dL_law_543 ?_
  refine V_sld X hX hbl hbA h1 dL_law_544 ?_
  refine V_aload_n X 0 rfl dL_law_545 ?_
  refine V_iload_n X 3 rfl dL_law_546 ?_
  refine V_iconst X (v := 2) (by decide) dL_law_547 ?_
  refine V_iadd X dL_law_548 ?_
  refine V_sld X hX hbl hbA h2 dL_law_549 ?_
  refine V_callVi X (OB_12 hE) rfl rfl (f8_ofQuarter_ok hE e2) yl_X8_ofQuarter wl_X8_ofQuarter kl_64 rfl rfl ⟨Nat.le_of_ble_eq_true rfl, Nat.le_of_ble_eq_true rfl⟩ ⟨Nat.le_of_ble_eq_true rfl, Nat.le_of_ble_eq_true rfl⟩ (Nat.le_of_ble_eq_true rfl) dL_law_550 ?_
  exact V_icmp_eq X (tgt := 890) (by decide) dL_law_553 (fun _ => kk g2 u1 r1 r2 r3) (fun w => absurd rfl w)
theorem lw_ofColour (hE : IW E) (X : XC E RL cL_law 4 ret A p s m args meth c) (hX : va_X b L xs s s.heap) (hbl : b < s.heap.size) (hbA : ¬ A b) (h1 : vp_in (x + 1) L) (h2 : vp_in (x + 2) L) (h3 : vp_in (x + 3) L) (h4 : vp_in (x + 4) L) (hC : RC h u) (hM : RM h u) (hS : SI u) (kk : ∀ (h' : Hp) (u' : St), RC h' u' → RM h' u' → SI u' → V E 4 A p l e room_1 s m args below meth c 22 8430 Q 890 (lawL E b x) [] h') : V E 4 A p l e room_1 s m args below meth c 22 8430 Q 558 (lawL E b x) [] h := by
  obtain ⟨v, g1, g2, u1, e1, e2, r1, r2, r3⟩ := op_ofColour (xs (Int32.toNatClampNeg (x + 1))) (xs (Int32.toNatClampNeg (x + 2))) h u hC hM hS
  refine V_aload_n X 1 rfl dL_law_558 ?_
  refine V_aload_n X 0 rfl dL_law_559 ?_
  refine V_iload_n X 3 rfl dL_law_560 ?_
  refine V_iconst X (v := 1) (by decide) dL_law_561 ?_
  refine V_iadd X dL_law_562 ?_
  refine V_sld X hX hbl hbA h1 dL_law_563 ?_
  refine V_aload_n X 0 rfl dL_law_564 ?_
  refine V_iload_n X 3 rfl dL_law_565 ?_
  refine V_iconst X (v := 2) (by decide) dL_law_566 ?_
  refine V_iadd X dL_law_567 ?_
  refine V_sld X hX hbl hbA h2 dL_law_568 ?_
  refine V_callVi X (OB_0 hE) rfl rfl (f7_ofColour_ok hE e1) yl_X7_ofColour wl_X7_ofColour kl_65 rfl rfl ⟨Nat.le_of_ble_eq_true rfl, Nat.le_of_ble_eq_true rfl⟩ ⟨Nat.le_of_ble_eq_true rfl, Nat.le_of_ble_eq_true rfl⟩ (Nat.le_of_ble_eq_true rfl) dL_law_569 ?_
  refine V_aload_n X 2 rfl dL_law_572 ?_
  refine V_aload_n X 0 rfl dL_law_573 ?_
  refine V_iload_n X 3 rfl dL_law_574 ?_
  refine V_iconst X (v := 1) (by decide) dL_law_575 ?_
  refine V_iadd X dL_law_576 ?_
  refine V_sld X hX hbl hbA h1 dL_law_577 ?_
  refine V_aload_n X 0 rfl dL_law_578 ?_
  refine V_iload_n X 3 rfl dL_law_579 ?_
  refine V_iconst X (v := 2) (by decide) dL_law_580 ?_
  refine V_iadd X dL_law_581 ?_
  refine V_sld X hX hbl hbA h2 dL_law_582 ?_
  refine V_callVi X (OB_12 hE) rfl rfl (f8_ofColour_ok hE e2) yl_X8_ofColour wl_X8_ofColour kl_68 rfl rfl ⟨Nat.le_of_ble_eq_true rfl, Nat.le_of_ble_eq_true rfl⟩ ⟨Nat.le_of_ble_eq_true rfl, Nat.le_of_ble_eq_true rfl⟩ (Nat.le_of_ble_eq_true rfl) dL_law_583 ?_
  exact V_icmp_eq X (tgt := 890) (by decide) dL_law_586 (fun _ => kk g2 u1 r1 r2 r3) (fun w => absurd rfl w)
theorem lw_count (hE : IW E) (X : XC E RL cL_law 4 ret A p s m args meth c) (hX : va_X b L xs s s.heap) (hbl : b < s.heap.size) (hbA : ¬ A b) (h1 : vp_in (x + 1) L) (h2 : vp_in (x + 2) L) (h3 : vp_in (x + 3) L) (h4 : vp_in (x + 4) L) (hC : RC h u) (hM : RM h u) (hS : SI u) (kk : ∀ (h' : Hp) (u' : St), RC h' u' → RM h' u' → SI u' → V E 4 A p l e room_1 s m args below meth c 22 8430 Q 890 (lawL E b x) [] h') : V E 4 A p l e room_1 s m args below meth c 22 8430 Q 591 (lawL E b x) [] h := by
  obtain ⟨v, g1, g2, u1, e1, e2, r1, r2, r3⟩ := op_count (xs (Int32.toNatClampNeg (x + 1))) h u hC hM hS
  refine V_aload_n X 1 rfl dL_law_591 ?_
  refine V_aload_n X 0 rfl dL_law_592 ?_
  refine V_iload_n X 3 rfl dL_law_593 ?_
  refine V_iconst X (v := 1) (by decide) dL_law_594 ?_
  refine V_iadd X dL_law_595 ?_
  refine V_sld X hX hbl hbA h1 dL_law_596 ?_
  refine V_callVi X (OB_0 hE) rfl rfl (f7_count_ok hE e1) yl_X7_count wl_X7_count kl_69 rfl rfl ⟨Nat.le_of_ble_eq_true rfl, Nat.le_of_ble_eq_true rfl⟩ ⟨Nat.le_of_ble_eq_true rfl, Nat.le_of_ble_eq_true rfl⟩ (Nat.le_of_ble_eq_true rfl) dL_law_597 ?_
  refine V_aload_n X 2 rfl dL_law_600 ?_
  refine V_aload_n X 0 rfl dL_law_601 ?_
  refine V_iload_n X 3 rfl dL_law_602 ?_
  refine V_iconst X (v := 1) (by decide) dL_law_603 ?_
  refine V_iadd X dL_law_604 ?_
  refine V_sld X hX hbl hbA h1 dL_law_605 ?_
  refine V_callVi X (OB_12 hE) rfl rfl (f8_count_ok hE e2) yl_X8_count wl_X8_count kl_73 rfl rfl ⟨Nat.le_of_ble_eq_true rfl, Nat.le_of_ble_eq_true rfl⟩ ⟨Nat.le_of_ble_eq_true rfl, Nat.le_of_ble_eq_true rfl⟩ (Nat.le_of_ble_eq_true rfl) dL_law_606 ?_
  exact V_icmp_eq X (tgt := 890) (by decide) dL_law_609 (fun _ => kk g2 u1 r1 r2 r3) (fun w => absurd rfl w)
theorem lw_needed (hE : IW E) (X : XC E RL cL_law 4 ret A p s m args meth c) (hX : va_X b L xs s s.heap) (hbl : b < s.heap.size) (hbA : ¬ A b) (h1 : vp_in (x + 1) L) (h2 : vp_in (x + 2) L) (h3 : vp_in (x + 3) L) (h4 : vp_in (x + 4) L) (hC : RC h u) (hM : RM h u) (hS : SI u) (kk : ∀ (h' : Hp) (u' : St), RC h' u' → RM h' u' → SI u' → V E 4 A p l e room_1 s m args below meth c 22 8430 Q 890 (lawL E b x) [] h') : V E 4 A p l e room_1 s m args below meth c 22 8430 Q 614 (lawL E b x) [] h := by
  obtain ⟨v, g1, g2, u1, e1, e2, r1, r2, r3⟩ := op_needed (xs (Int32.toNatClampNeg (x + 1))) h u hC hM hS
  refine V_aload_n X 1 rfl dL_law_614 ?_
  refine V_aload_n X 0 rfl dL_law_615 ?_
  refine V_iload_n X 3 rfl dL_law_616 ?_
  refine V_iconst X (v := 1) (by decide) dL_law_617 ?_
  refine V_iadd X dL_law_618 ?_
  refine V_sld X hX hbl hbA h1 dL_law_619 ?_
  refine V_callVi X (OB_0 hE) rfl rfl (f7_needed_ok hE e1) yl_X7_needed wl_X7_needed kl_74 rfl rfl ⟨Nat.le_of_ble_eq_true rfl, Nat.le_of_ble_eq_true rfl⟩ ⟨Nat.le_of_ble_eq_true rfl, Nat.le_of_ble_eq_true rfl⟩ (Nat.le_of_ble_eq_true rfl) dL_law_620 ?_
  refine V_aload_n X 2 rfl dL_law_623 ?_
  refine V_aload_n X 0 rfl dL_law_624 ?_
  refine V_iload_n X 3 rfl dL_law_625 ?_
  refine V_iconst X (v := 1) (by decide) dL_law_626 ?_
  refine V_iadd X dL_law_627 ?_
  refine V_sld X hX hbl hbA h1 dL_law_628 ?_
  refine V_callVi X (OB_12 hE) rfl rfl (f8_needed_ok hE e2) yl_X8_needed wl_X8_needed kl_77 rfl rfl ⟨Nat.le_of_ble_eq_true rfl, Nat.le_of_ble_eq_true rfl⟩ ⟨Nat.le_of_ble_eq_true rfl, Nat.le_of_ble_eq_true rfl⟩ (Nat.le_of_ble_eq_true rfl) dL_law_629 ?_
  exact V_icmp_eq X (tgt := 890) (by decide) dL_law_632 (fun _ => kk g2 u1 r1 r2 r3) (fun w => absurd rfl w)
theorem lw_lacking (hE : IW E) (X : XC E RL cL_law 4 ret A p s m args meth c) (hX : va_X b L xs s s.heap) (hbl : b < s.heap.size) (hbA : ¬ A b) (h1 : vp_in (x + 1) L) (h2 : vp_in (x + 2) L) (h3 : vp_in (x + 3) L) (h4 : vp_in (x + 4) L) (hC : RC h u) (hM : RM h u) (hS : SI u) (kk : ∀ (h' : Hp) (u' : St), RC h' u' → RM h' u' → SI u' → V E 4 A p l e room_1 s m args below meth c 22 8430 Q 890 (lawL E b x) [] h') : V E 4 A p l e room_1 s m args below meth c 22 8430 Q 637 (lawL E b x) [] h := by
  obtain ⟨v, g1, g2, u1, e1, e2, r1, r2, r3⟩ := op_lacking h u hC hM hS
  refine V_aload_n X 1 rfl dL_law_637 ?_
  refine V_callVi X (OB_0 hE) rfl rfl (f7_lacking_ok hE e1) yl_X7_lacking wl_X7_lacking kl_78 rfl rfl ⟨Nat.le_of_ble_eq_true rfl, Nat.le_of_ble_eq_true rfl⟩ ⟨Nat.le_of_ble_eq_true rfl, Nat.le_of_ble_eq_true rfl⟩ (Nat.le_of_ble_eq_true rfl) dL_law_638 ?_
  refine V_aload_n X 2 rfl dL_law_641 ?_
  refine V_callVi X (OB_12 hE) rfl rfl (f8_lacking_ok hE e2) yl_X8_lacking wl_X8_lacking kl_81 rfl rfl ⟨Nat.le_of_ble_eq_true rfl, Nat.le_of_ble_eq_true rfl⟩ ⟨Nat.le_of_ble_eq_true rfl, Nat.le_of_ble_eq_true rfl⟩ (Nat.le_of_ble_eq_true rfl) dL_law_642 ?_
  exact V_icmp_eq X (tgt := 890) (by decide) dL_law_645 (fun _ => kk g2 u1 r1 r2 r3) (fun w => absurd rfl w)
theorem lw_ifBreathed (hE : IW E) (X : XC E RL cL_law 4 ret A p s m args meth c) (hX : va_X b L xs s s.heap) (hbl : b < s.heap.size) (hbA : ¬ A b) (h1 : vp_in (x + 1) L) (h2 : vp_in (x + 2) L) (h3 : vp_in (x + 3) L) (h4 : vp_in (x + 4) L) (hC : RC h u) (hM : RM h u) (hS : SI u) (kk : ∀ (h' : Hp) (u' : St), RC h' u' → RM h' u' → SI u' → V E 4 A p l e room_1 s m args below meth c 22 8430 Q 890 (lawL E b x) [] h') : V E 4 A p l e room_1 s m args below meth c 22 8430 Q 650 (lawL E b x) [] h := by
  obtain ⟨v, g1, g2, u1, e1, e2, r1, r2, r3⟩ := op_ifBreathed (xs (Int32.toNatClampNeg (x + 1))) (xs (Int32.toNatClampNeg (x + 2))) (xs (Int32.toNatClampNeg (x + 3))) h u hC hM hS
  refine V_aload_n X 1 rfl dL_law_650 ?_
  refine V_aload_n X 0 rfl dL_law_651 ?_
  refine V_iload_n X 3 rfl dL_law_652 ?_
  refine V_iconst X (v := 1) (by decide) dL_law_653 ?_
  refine V_iadd X dL_law_654 ?_
  refine V_sld X hX hbl hbA h1 dL_law_655 ?_
  refine V_aload_n X 0 rfl dL_law_656 ?_
  refine V_iload_n X 3 rfl dL_law_657 ?_
  refine V_iconst X (v := 2) (by decide) dL_law_658 ?_
  refine V_iadd X dL_law_659 ?_
  refine V_sld X hX hbl hbA h2 dL_law_660 ?_
  refine V_aload_n X 0 rfl dL_law_661 ?_
  refine V_iload_n X 3 rfl dL_law_662 ?_
  refine V_iconst X (v := 3) (by decide) dL_law_663 ?_
  refine V_iadd X dL_law_664 ?_
  refine V_sld X hX hbl hbA h3 dL_law_665 ?_
  refine V_callVi X (OB_0 hE) rfl rfl (f7_ifBreathed_ok hE e1) yl_X7_ifBreathed wl_X7_ifBreathed kl_82 rfl rfl ⟨Nat.le_of_ble_eq_true rfl, Nat.le_of_ble_eq_true rfl⟩ ⟨Nat.le_of_ble_eq_true rfl, Nat.le_of_ble_eq_true rfl⟩ (Nat.le_of_ble_eq_true rfl) dL_law_666 ?_
  refine V_aload_n X 2 rfl dL_law_669 ?_
  refine V_aload_n X 0 rfl dL_law_670 ?_
  refine V_iload_n X 3 rfl dL_law_671 ?_
  refine V_iconst X (v := 1) (by decide) dL_law_672 ?_
  refine V_iadd X dL_law_673 ?_
  refine V_sld X hX hbl hbA h1 dL_law_674 ?_
  refine V_aload_n X 0 rfl dL_law_675 ?_
  refine V_iload_n X 3 rfl dL_law_676 ?_
  refine V_iconst X (v := 2) (by decide) dL_law_677 ?_
  refine V_iadd X dL_law_678 ?_
  refine V_sld X hX hbl hbA h2 dL_law_679 ?_
  refine V_aload_n X 0 rfl dL_law_680 ?_
  refine V_iload_n X 3 rfl dL_law_681 ?_
  refine V_iconst X (v := 3) (by decide) dL_law_682 ?_
  refine V_iadd X dL_law_683 ?_
  refine V_sld X hX hbl hbA h3 dL_law_684 ?_
  refine V_callVi X (OB_12 hE) rfl rfl (f8_ifBreathed_ok hE e2) yl_X8_ifBreathed wl_X8_ifBreathed kl_85 rfl rfl ⟨Nat.le_of_ble_eq_true rfl, Nat.le_of_ble_eq_true rfl⟩ ⟨Nat.le_of_ble_eq_true rfl, Nat.le_of_ble_eq_true rfl⟩ (Nat.le_of_ble_eq_true rfl) dL_law_685 ?_
  exact V_icmp_eq X (tgt := 890) (by decide) dL_law_688 (fun _ => kk g2 u1 r1 r2 r3) (fun w => absurd rfl w)
theorem lw_settles (hE : IW E) (X : XC E RL cL_law 4 ret A p s m args meth c) (hX : va_X b L xs s s.heap) (hbl : b < s.heap.size) (hbA : ¬ A b) (h1 : vp_in (x + 1) L) (h2 : vp_in (x + 2) L) (h3 : vp_in (x + 3) L) (h4 : vp_in (x + 4) L) (hC : RC h u) (hM : RM h u) (hS : SI u) (kk : ∀ (h' : Hp) (u' : St), RC h' u' → RM h' u' → SI u' → V E 4 A p l e room_1 s m args below meth c 22 8430 Q 890 (lawL E b x) [] h') : V E 4 A p l e room_1 s m args below meth c 22 8430 Q 693 (lawL E b x) [] h := by
  obtain ⟨v, g1, g2, u1, e1, e2, r1, r2, r3⟩ := op_settles (xs (Int32.toNatClampNeg (x + 1))) (xs (Int32.toNatClampNeg (x + 2))) h u hC hM hS
  refine V_aload_n X 1 rfl dL_law_693 ?_
  refine V_aload_n X 0 rfl dL_law_694 ?_
  refine V_iload_n X 3 rfl dL_law_695 ?_
  refine V_iconst X (v := 1) (by decide) dL_law_696 ?_
  refine V_iadd X dL_law_697 ?_
  refine V_sld X hX hbl hbA h1 dL_law_698 ?_
  refine V_aload_n X 0 rfl dL_law_699 ?_
  refine V_iload_n X 3 rfl dL_law_700 ?_
  refine V_iconst X (v := 2) (by decide) dL_law_701 ?_
  refine V_iadd X dL_law_702 ?_
  refine V_sld X hX hbl hbA h2 dL_law_703 ?_
  refine V_callVi X (OB_0 hE) rfl rfl (f7_settles_ok hE e1) yl_X7_settles wl_X7_settles kl_86 rfl rfl ⟨Nat.le_of_ble_eq_true rfl, Nat.le_of_ble_eq_true rfl⟩ ⟨Nat.le_of_ble_eq_true rfl, Nat.le_of_ble_eq_true rfl⟩ (Nat.le_of_ble_eq_true rfl) dL_law_704 ?_
  refine V_aload_n X 2 rfl dL_law_707 ?_
  refine V_aload_n X 0 rfl dL_law_708 ?_
  refine V_iload_n X 3 rfl dL_law_709 ?_
  refine V_iconst X (v := 1) (by decide) dL_law_710 ?_
  refine V_iadd X dL_law_711 ?_
  refine V_sld X hX hbl hbA h1 dL_law_712 ?_
  refine V_aload_n X 0 rfl dL_law_713 ?_
  refine V_iload_n X 3 rfl dL_law_714 ?_
  refine V_iconst X (v := 2) (by decide) dL_law_715 ?_
  refine V_iadd X dL_law_716 ?_
  refine V_sld X hX hbl hbA h2 dL_law_717 ?_
  refine V_callVi X (OB_12 hE) rfl rfl (f8_settles_ok hE e2) yl_X8_settles wl_X8_settles kl_89 rfl rfl ⟨Nat.le_of_ble_eq_true rfl, Nat.le_of_ble_eq_true rfl⟩ ⟨Nat.le_of_ble_eq_true rfl, Nat.le_of_ble_eq_true rfl⟩ (Nat.le_of_ble_eq_true rfl) dL_law_718 ?_
  exact V_icmp_eq X (tgt := 890) (by decide) dL_law_721 (fun _ => kk g2 u1 r1 r2 r3) (fun w => absurd rfl w)
theorem lw_best (hE : IW E) (X : XC E RL cL_law 4 ret A p s m args meth c) (hX : va_X b L xs s s.heap) (hbl : b < s.heap.size) (hbA : ¬ A b) (h1 : vp_in (x + 1) L) (h2 : vp_in (x + 2) L) (h3 : vp_in (x + 3) L) (h4 : vp_in (x + 4) L) (hC : RC h u) (hM : RM h u) (hS : SI u) (kk : ∀ (h' : Hp) (u' : St), RC h' u' → RM h' u' → SI u' → V E 4 A p l e room_1 s m args below meth c 22 8430 Q 890 (lawL E b x) [] h') : V E 4 A p l e room_1 s m args below meth c 22 8430 Q 726 (lawL E b x) [] h := by
  obtain ⟨v, g1, g2, u1, e1, e2, r1, r2, r3⟩ := op_best h u hC hM hS
  refine V_aload_n X 1 rfl dL_law_726 ?_
  refine V_callVi X (OB_0 hE) rfl rfl (f7_best_ok hE e1) yl_X7_best wl_X7_best kl_90 rfl rfl ⟨Nat.le_of_ble_eq_true rfl, Nat.le_of_ble_eq_true rfl⟩ ⟨Nat.le_of_ble_eq_true rfl, Nat.le_of_ble_eq_true rfl⟩ (Nat.le_of_ble_eq_true rfl) dL_law_727 ?_
  refine V_aload_n X 2 rfl dL_law_730 ?_
  refine V_callVi X (OB_12 hE) rfl rfl (f8_best_ok hE e2) yl_X8_best wl_X8_best kl_93 rfl rfl ⟨Nat.le_of_ble_eq_true rfl, Nat.le_of_ble_eq_true rfl⟩ ⟨Nat.le_of_ble_eq_true rfl, Nat.le_of_ble_eq_true rfl⟩ (Nat.le_of_ble_eq_true rfl) dL_law_731 ?_
  exact V_icmp_eq X (tgt := 890) (by decide) dL_law_734 (fun _ => kk g2 u1 r1 r2 r3) (fun w => absurd rfl w)
theorem lw_put (hE : IW E) (X : XC E RL cL_law 4 ret A p s m args meth c) (hX : va_X b L xs s s.heap) (hbl : b < s.heap.size) (hbA : ¬ A b) (h1 : vp_in (x + 1) L) (h2 : vp_in (x + 2) L) (h3 : vp_in (x + 3) L) (h4 : vp_in (x + 4) L) (hC : RC h u) (hM : RM h u) (hS : SI u) (kk : ∀ (h' : Hp) (u' : St), RC h' u' → RM h' u' → SI u' → V E 4 A p l e room_1 s m args below meth c 22 8430 Q 890 (lawL E b x) [] h') : V E 4 A p l e room_1 s m args below meth c 22 8430 Q 739 (lawL E b x) [] h := by
  obtain ⟨v, g1, g2, u1, e1, e2, r1, r2, r3⟩ := op_put (((xs (Int32.toNatClampNeg (x + 1))).toInt64 <<< ((32 : Int32).toInt64 &&& 63)) ||| ((xs (Int32.toNatClampNeg (x + 2))).toInt64 &&& 4294967295)) h u hC hM hS
  refine V_aload_n X 1 rfl dL_law_739 ?_
  refine V_aload_n X 0 rfl dL_law_740 ?_
  refine V_iload_n X 3 rfl dL_law_741 ?_
  refine V_iconst X (v := 1) (by decide) dL_law_742 ?_
  refine V_iadd X dL_law_743 ?_
  refine V_sld X hX hbl hbA h1 dL_law_744 ?_
  refine V_i2l X dL_law_745 ?_
  refine V_bipush X (v := 32) (by decide) dL_law_746 ?_
  refine V_lshl X dL_law_748 ?_
  refine V_aload_n X 0 rfl dL_law_749 ?_
  refine V_iload_n X 3 rfl dL_law_750 ?_
  refine V_iconst X (v := 2) (by decide) dL_law_751 ?_
  refine V_iadd X dL_law_752 ?_
  refine V_sld X hX hbl hbA h2 dL_law_753 ?_
  refine V_i2l X dL_law_754 ?_
  refine V_ldc2 X kcl_94 dL_law_755 ?_
  refine V_land X dL_law_758 ?_
  refine V_lor X dL_law_759 ?_
  refine V_callVi X (OB_0 hE) rfl rfl (f7_put_ok hE e1) yl_X7_put wl_X7_put kl_96 rfl rfl ⟨Nat.le_of_ble_eq_true rfl, Nat.le_of_ble_eq_true rfl⟩ ⟨Nat.le_of_ble_eq_true rfl, Nat.le_of_ble_eq_true rfl⟩ (Nat.le_of_ble_eq_true rfl) dL_law_760 ?_
  refine V_aload_n X 2 rfl dL_law_763 ?_
  refine V_aload_n X 0 rfl dL_law_764 ?_
  refine V_iload_n X 3 rfl dL_law_765 ?_
  refine V_iconst X (v := 1) (by decide) dL_law_766 ?_
  refine V_iadd X dL_law_767 ?_
  refine V_sld X hX hbl hbA h1 dL_law_768 ?_
  refine V_i2l X dL_law_769 ?_
  refine V_bipush X (v := 32) (by decide) dL_law_770 ?_
  refine V_lshl X dL_law_772 ?_
  refine V_aload_n X 0 rfl dL_law_773 ?_
  refine V_iload_n X 3 rfl dL_law_774 ?_
  refine V_iconst X (v := 2) (by decide) dL_law_775 ?_
  refine V_iadd X dL_law_776 ?_
  refine V_sld X hX hbl hbA h2 dL_law_777 ?_
  refine V_i2l X dL_law_778 ?_
  refine V_ldc2 X kcl_94 dL_law_779 ?_
  refine V_land X dL_law_782 ?_
  refine V_lor X dL_law_783 ?_
  refine V_callVi X (OB_12 hE) rfl rfl (f8_put_ok hE e2) yl_X8_put wl_X8_put kl_100 rfl rfl ⟨Nat.le_of_ble_eq_true rfl, Nat.le_of_ble_eq_true rfl⟩ ⟨Nat.le_of_ble_eq_true rfl, Nat.le_of_ble_eq_true rfl⟩ (Nat.le_of_ble_eq_true rfl) dL_law_784 ?_
  exact V_icmp_eq X (tgt := 890) (by decide) dL_law_787 (fun _ => kk g2 u1 r1 r2 r3) (fun w => absurd rfl w)
theorem lw_wipe (hE : IW E) (X : XC E RL cL_law 4 ret A p s m args meth c) (hX : va_X b L xs s s.heap) (hbl : b < s.heap.size) (hbA : ¬ A b) (h1 : vp_in (x + 1) L) (h2 : vp_in (x + 2) L) (h3 : vp_in (x + 3) L) (h4 : vp_in (x + 4) L) (hC : RC h u) (hM : RM h u) (hS : SI u) (kk : ∀ (h' : Hp) (u' : St), RC h' u' → RM h' u' → SI u' → V E 4 A p l e room_1 s m args below meth c 22 8430 Q 890 (lawL E b x) [] h') : V E 4 A p l e room_1 s m args below meth c 22 8430 Q 792 (lawL E b x) [] h := by
  obtain ⟨v, g1, g2, u1, e1, e2, r1, r2, r3⟩ := op_wipe h u hC hM hS
  refine V_aload_n X 1 rfl dL_law_792 ?_
  refine V_callVi X (OB_0 hE) rfl rfl (f7_wipe_ok hE e1) yl_X7_wipe wl_X7_wipe kl_101 rfl rfl ⟨Nat.le_of_ble_eq_true rfl, Nat.le_of_ble_eq_true rfl⟩ ⟨Nat.le_of_ble_eq_true rfl, Nat.le_of_ble_eq_true rfl⟩ (Nat.le_of_ble_eq_true rfl) dL_law_793 ?_
  refine V_aload_n X 2 rfl dL_law_796 ?_
  refine V_callVi X (OB_12 hE) rfl rfl (f8_wipe_ok hE e2) yl_X8_wipe wl_X8_wipe kl_104 rfl rfl ⟨Nat.le_of_ble_eq_true rfl, Nat.le_of_ble_eq_true rfl⟩ ⟨Nat.le_of_ble_eq_true rfl, Nat.le_of_ble_eq_true rfl⟩ (Nat.le_of_ble_eq_true rfl) dL_law_797 ?_
  exact V_icmp_eq X (tgt := 890) (by decide) dL_law_800 (fun _ => kk g2 u1 r1 r2 r3) (fun w => absurd rfl w)
theorem lw_fault (hE : IW E) (X : XC E RL cL_law 4 ret A p s m args meth c) (hX : va_X b L xs s s.heap) (hbl : b < s.heap.size) (hbA : ¬ A b) (h1 : vp_in (x + 1) L) (h2 : vp_in (x + 2) L) (h3 : vp_in (x + 3) L) (h4 : vp_in (x + 4) L) (hC : RC h u) (hM : RM h u) (hS : SI u) (kk : ∀ (h' : Hp) (u' : St), RC h' u' → RM h' u' → SI u' → V E 4 A p l e room_1 s m args below meth c 22 8430 Q 890 (lawL E b x) [] h') : V E 4 A p l e room_1 s m args below meth c 22 8430 Q 805 (lawL E b x) [] h := by
  obtain ⟨v, g1, g2, u1, e1, e2, r1, r2, r3⟩ := op_fault h u hC hM hS
  refine V_aload_n X 1 rfl dL_law_805 ?_
  refine V_callVi X (OB_0 hE) rfl rfl (f7_fault_ok hE e1) yl_X7_fault wl_X7_fault kl_105 rfl rfl ⟨Nat.le_of_ble_eq_true rfl, Nat.le_of_ble_eq_true rfl⟩ ⟨Nat.le_of_ble_eq_true rfl, Nat.le_of_ble_eq_true rfl⟩ (Nat.le_of_ble_eq_true rfl) dL_law_806 ?_
  refine V_aload_n X 2 rfl dL_law_809 ?_
  refine V_callVi X (OB_12 hE) rfl rfl (f8_fault_ok hE e2) yl_X8_fault wl_X8_fault kl_108 rfl rfl ⟨Nat.le_of_ble_eq_true rfl, Nat.le_of_ble_eq_true rfl⟩ ⟨Nat.le_of_ble_eq_true rfl, Nat.le_of_ble_eq_true rfl⟩ (Nat.le_of_ble_eq_true rfl) dL_law_810 ?_
  exact V_icmp_eq X (tgt := 890) (by decide) dL_law_813 (fun _ => kk g2 u1 r1 r2 r3) (fun w => absurd rfl w)
theorem lw_carryOut (hE : IW E) (X : XC E RL cL_law 4 ret A p s m args meth c) (hX : va_X b L xs s s.heap) (hbl : b < s.heap.size) (hbA : ¬ A b) (h1 : vp_in (x + 1) L) (h2 : vp_in (x + 2) L) (h3 : vp_in (x + 3) L) (h4 : vp_in (x + 4) L) (hC : RC h u) (hM : RM h u) (hS : SI u) (kk : ∀ (h' : Hp) (u' : St), RC h' u' → RM h' u' → SI u' → V E 4 A p l e room_1 s m args below meth c 22 8430 Q 890 (lawL E b x) [] h') : V E 4 A p l e room_1 s m args below meth c 22 8430 Q 818 (lawL E b x) [] h := by
  obtain ⟨v, g1, g2, u1, e1, e2, r1, r2, r3⟩ := op_carryOut h u hC hM hS
  refine V_aload_n X 1 rfl dL_law_818 ?_
  refine V_callVi X (OB_0 hE) rfl rfl (f7_carryOut_ok hE e1) yl_X7_carryOut wl_X7_carryOut kl_109 rfl rfl ⟨Nat.le_of_ble_eq_true rfl, Nat.le_of_ble_eq_true rfl⟩ ⟨Nat.le_of_ble_eq_true rfl, Nat.le_of_ble_eq_true rfl⟩ (Nat.le_of_ble_eq_true rfl) dL_law_819 ?_
  refine V_aload_n X 2 rfl dL_law_822 ?_
  refine V_callVi X (OB_12 hE) rfl rfl (f8_carryOut_ok hE e2) yl_X8_carryOut wl_X8_carryOut kl_112 rfl rfl ⟨Nat.le_of_ble_eq_true rfl, Nat.le_of_ble_eq_true rfl⟩ ⟨Nat.le_of_ble_eq_true rfl, Nat.le_of_ble_eq_true rfl⟩ (Nat.le_of_ble_eq_true rfl) dL_law_823 ?_
  exact V_icmp_eq X (tgt := 890) (by decide) dL_law_826 (fun _ => kk g2 u1 r1 r2 r3) (fun w => absurd rfl w)
theorem lw_undo (hE : IW E) (X : XC E RL cL_law 4 ret A p s m args meth c) (hX : va_X b L xs s s.heap) (hbl : b < s.heap.size) (hbA : ¬ A b) (h1 : vp_in (x + 1) L) (h2 : vp_in (x + 2) L) (h3 : vp_in (x + 3) L) (h4 : vp_in (x + 4) L) (hC : RC h u) (hM : RM h u) (hS : SI u) (kk : ∀ (h' : Hp) (u' : St), RC h' u' → RM h' u' → SI u' → V E 4 A p l e room_1 s m args below meth c 22 8430 Q 890 (lawL E b x) [] h') : V E 4 A p l e room_1 s m args below meth c 22 8430 Q 831 (lawL E b x) [] h := by
  obtain ⟨v, g1, g2, u1, e1, e2, r1, r2, r3⟩ := op_undo h u hC hM hS
  refine V_aload_n X 1 rfl dL_law_831 ?_
  refine V_callVi X (OB_0 hE) rfl rfl (f7_undo_ok hE e1) yl_X7_undo wl_X7_undo kl_113 rfl rfl ⟨Nat.le_of_ble_eq_true rfl, Nat.le_of_ble_eq_true rfl⟩ ⟨Nat.le_of_ble_eq_true rfl, Nat.le_of_ble_eq_true rfl⟩ (Nat.le_of_ble_eq_true rfl) dL_law_832 ?_
  refine V_aload_n X 2 rfl dL_law_835 ?_
  refine V_callVi X (OB_12 hE) rfl rfl (f8_undo_ok hE e2) yl_X8_undo wl_X8_undo kl_116 rfl rfl ⟨Nat.le_of_ble_eq_true rfl, Nat.le_of_ble_eq_true rfl⟩ ⟨Nat.le_of_ble_eq_true rfl, Nat.le_of_ble_eq_true rfl⟩ (Nat.le_of_ble_eq_true rfl) dL_law_836 ?_
  exact V_icmp_eq X (tgt := 890) (by decide) dL_law_839 (fun _ => kk g2 u1 r1 r2 r3) (fun w => absurd rfl w)
theorem lw_save (hE : IW E) (X : XC E RL cL_law 4 ret A p s m args meth c) (hX : va_X b L xs s s.heap) (hbl : b < s.heap.size) (hbA : ¬ A b) (h1 : vp_in (x + 1) L) (h2 : vp_in (x + 2) L) (h3 : vp_in (x + 3) L) (h4 : vp_in (x + 4) L) (hC : RC h u) (hM : RM h u) (hS : SI u) (kk : ∀ (h' : Hp) (u' : St), RC h' u' → RM h' u' → SI u' → V E 4 A p l e room_1 s m args below meth c 22 8430 Q 890 (lawL E b x) [] h') : V E 4 A p l e room_1 s m args below meth c 22 8430 Q 844 (lawL E b x) [] h := by
  obtain ⟨v, g1, g2, u1, e1, e2, r1, r2, r3⟩ := op_save (xs (Int32.toNatClampNeg (x + 1))) h u hC hM hS
  refine V_aload_n X 1 rfl dL_law_844 ?_
  refine V_aload_n X 0 rfl dL_law_845 ?_
  refine V_iload_n X 3 rfl dL_law_846 ?_
  refine V_iconst X (v := 1) (by decide) dL_law_847 ?_
  refine V_iadd X dL_law_848 ?_
  refine V_sld X hX hbl hbA h1 dL_law_849 ?_
  refine V_callVi X (OB_0 hE) rfl rfl (f7_save_ok hE e1) yl_X7_save wl_X7_save kl_117 rfl rfl ⟨Nat.le_of_ble_eq_true rfl, Nat.le_of_ble_eq_true rfl⟩ ⟨Nat.le_of_ble_eq_true rfl, Nat.le_of_ble_eq_true rfl⟩ (Nat.le_of_ble_eq_true rfl) dL_law_850 ?_
  refine V_aload_n X 2 rfl dL_law_853 ?_
  refine V_aload_n X 0 rfl dL_law_854 ?_
  refine V_iload_n X 3 rfl dL_law_855 ?_
  refine V_iconst X (v := 1) (by decide) dL_law_856 ?_
  refine V_iadd X dL_law_857 ?_
  refine V_sld X hX hbl hbA h1 dL_law_858 ?_
  refine V_callVi X (OB_12 hE) rfl rfl (f8_save_ok hE e2) yl_X8_save wl_X8_save kl_120 rfl rfl ⟨Nat.le_of_ble_eq_true rfl, Nat.le_of_ble_eq_true rfl⟩ ⟨Nat.le_of_ble_eq_true rfl, Nat.le_of_ble_eq_true rfl⟩ (Nat.le_of_ble_eq_true rfl) dL_law_859 ?_
  exact V_icmp_eq X (tgt := 890) (by decide) dL_law_862 (fun _ => kk g2 u1 r1 r2 r3) (fun w => absurd rfl w)
theorem lw_restore (hE : IW E) (X : XC E RL cL_law 4 ret A p s m args meth c) (hX : va_X b L xs s s.heap) (hbl : b < s.heap.size) (hbA : ¬ A b) (h1 : vp_in (x + 1) L) (h2 : vp_in (x + 2) L) (h3 : vp_in (x + 3) L) (h4 : vp_in (x + 4) L) (hC : RC h u) (hM : RM h u) (hS : SI u) (kk : ∀ (h' : Hp) (u' : St), RC h' u' → RM h' u' → SI u' → V E 4 A p l e room_1 s m args below meth c 22 8430 Q 890 (lawL E b x) [] h') : V E 4 A p l e room_1 s m args below meth c 22 8430 Q 867 (lawL E b x) [] h := by
  obtain ⟨v, g1, g2, u1, e1, e2, r1, r2, r3⟩ := op_restore (xs (Int32.toNatClampNeg (x + 1))) h u hC hM hS
  refine V_aload_n X 1 rfl dL_law_867 ?_
  refine V_aload_n X 0 rfl dL_law_868 ?_
  refine V_iload_n X 3 rfl dL_law_869 ?_
  refine V_iconst X (v := 1) (by decide) dL_law_870 ?_
  refine V_iadd X dL_law_871 ?_
  refine V_sld X hX hbl hbA h1 dL_law_872 ?_
  refine V_callVi X (OB_0 hE) rfl rfl (f7_restore_ok hE e1) yl_X7_restore wl_X7_restore kl_121 rfl rfl ⟨Nat.le_of_ble_eq_true rfl, Nat.le_of_ble_eq_true rfl⟩ ⟨Nat.le_of_ble_eq_true rfl, Nat.le_of_ble_eq_true rfl⟩ (Nat.le_of_ble_eq_true rfl) dL_law_873 ?_
  refine V_aload_n X 2 rfl dL_law_876 ?_
  refine V_aload_n X 0 rfl dL_law_877 ?_
  refine V_iload_n X 3 rfl dL_law_878 ?_
  refine V_iconst X (v := 1) (by decide) dL_law_879 ?_
  refine V_iadd X dL_law_880 ?_
  refine V_sld X hX hbl hbA h1 dL_law_881 ?_
  refine V_callVi X (OB_12 hE) rfl rfl (f8_restore_ok hE e2) yl_X8_restore wl_X8_restore kl_124 rfl rfl ⟨Nat.le_of_ble_eq_true rfl, Nat.le_of_ble_eq_true rfl⟩ ⟨Nat.le_of_ble_eq_true rfl, Nat.le_of_ble_eq_true rfl⟩ (Nat.le_of_ble_eq_true rfl) dL_law_882 ?_
  exact V_icmp_eq X (tgt := 890) (by decide) dL_law_885 (fun _ => kk g2 u1 r1 r2 r3) (fun w => absurd rfl w)
end LW1
