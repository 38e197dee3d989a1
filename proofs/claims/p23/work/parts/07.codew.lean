set_option maxRecDepth 100000 in
theorem xcd0 : Cond.code (xyn 0) (xby 0) (xTab 0).2.2.1 (xre 0) ∈ xG := List.mem_filter.mpr ⟨List.mem_of_getElem? (i := 82) rfl, rfl⟩
set_option maxRecDepth 100000 in
theorem xcd1 : Cond.code (xyn 1) (xby 1) (xTab 1).2.2.1 (xre 1) ∈ xG := List.mem_filter.mpr ⟨List.mem_of_getElem? (i := 322) rfl, rfl⟩
set_option maxRecDepth 100000 in
theorem xcd2 : Cond.code (xyn 2) (xby 2) (xTab 2).2.2.1 (xre 2) ∈ xG := List.mem_filter.mpr ⟨List.mem_of_getElem? (i := 337) rfl, rfl⟩
set_option maxRecDepth 100000 in
theorem xcd3 : Cond.code (xyn 3) (xby 3) (xTab 3).2.2.1 (xre 3) ∈ xG := List.mem_filter.mpr ⟨List.mem_of_getElem? (i := 347) rfl, rfl⟩
set_option maxRecDepth 100000 in
theorem xcd4 : Cond.code (xyn 4) (xby 4) (xTab 4).2.2.1 (xre 4) ∈ xG := List.mem_filter.mpr ⟨List.mem_of_getElem? (i := 491) rfl, rfl⟩
set_option maxRecDepth 100000 in
theorem xcd5 : Cond.code (xyn 5) (xby 5) (xTab 5).2.2.1 (xre 5) ∈ xG := List.mem_filter.mpr ⟨List.mem_of_getElem? (i := 550) rfl, rfl⟩
set_option maxRecDepth 100000 in
theorem xcd6 : Cond.code (xyn 6) (xby 6) (xTab 6).2.2.1 (xre 6) ∈ xG := List.mem_filter.mpr ⟨List.mem_of_getElem? (i := 566) rfl, rfl⟩
set_option maxRecDepth 100000 in
theorem xcd7 : Cond.code (xyn 7) (xby 7) (xTab 7).2.2.1 (xre 7) ∈ xG := List.mem_filter.mpr ⟨List.mem_of_getElem? (i := 185) rfl, rfl⟩
set_option maxRecDepth 100000 in
theorem xcd8 : Cond.code (xyn 8) (xby 8) (xTab 8).2.2.1 (xre 8) ∈ xG := List.mem_filter.mpr ⟨List.mem_of_getElem? (i := 245) rfl, rfl⟩
set_option maxRecDepth 100000 in
theorem xcd9 : Cond.code (xyn 9) (xby 9) (xTab 9).2.2.1 (xre 9) ∈ xG := List.mem_filter.mpr ⟨List.mem_of_getElem? (i := 610) rfl, rfl⟩
set_option maxRecDepth 100000 in
theorem xcd10 : Cond.code (xyn 10) (xby 10) (xTab 10).2.2.1 (xre 10) ∈ xG := List.mem_filter.mpr ⟨List.mem_of_getElem? (i := 378) rfl, rfl⟩
set_option maxRecDepth 100000 in
theorem xcd11 : Cond.code (xyn 11) (xby 11) (xTab 11).2.2.1 (xre 11) ∈ xG := List.mem_filter.mpr ⟨List.mem_of_getElem? (i := 617) rfl, rfl⟩
set_option maxRecDepth 100000 in
theorem xcd12 : Cond.code (xyn 12) (xby 12) (xTab 12).2.2.1 (xre 12) ∈ xG := List.mem_filter.mpr ⟨List.mem_of_getElem? (i := 257) rfl, rfl⟩
set_option maxRecDepth 100000 in
theorem xcd13 : Cond.code (xyn 13) (xby 13) (xTab 13).2.2.1 (xre 13) ∈ xG := List.mem_filter.mpr ⟨List.mem_of_getElem? (i := 270) rfl, rfl⟩
set_option maxRecDepth 100000 in
theorem xcd14 : Cond.code (xyn 14) (xby 14) (xTab 14).2.2.1 (xre 14) ∈ xG := List.mem_filter.mpr ⟨List.mem_of_getElem? (i := 274) rfl, rfl⟩
set_option maxRecDepth 100000 in
theorem xcd15 : Cond.code (xyn 15) (xby 15) (xTab 15).2.2.1 (xre 15) ∈ xG := List.mem_filter.mpr ⟨List.mem_of_getElem? (i := 314) rfl, rfl⟩
set_option maxRecDepth 100000 in
theorem xcd16 : Cond.code (xyn 16) (xby 16) (xTab 16).2.2.1 (xre 16) ∈ xG := List.mem_filter.mpr ⟨List.mem_of_getElem? (i := 306) rfl, rfl⟩
set_option maxRecDepth 100000 in
theorem xcd17 : Cond.code (xyn 17) (xby 17) (xTab 17).2.2.1 (xre 17) ∈ xG := List.mem_filter.mpr ⟨List.mem_of_getElem? (i := 310) rfl, rfl⟩
set_option maxRecDepth 100000 in
theorem xcd18 : Cond.code (xyn 18) (xby 18) (xTab 18).2.2.1 (xre 18) ∈ xG := List.mem_filter.mpr ⟨List.mem_of_getElem? (i := 409) rfl, rfl⟩
set_option maxRecDepth 100000 in
theorem xcd19 : Cond.code (xyn 19) (xby 19) (xTab 19).2.2.1 (xre 19) ∈ xG := List.mem_filter.mpr ⟨List.mem_of_getElem? (i := 318) rfl, rfl⟩
set_option maxRecDepth 100000 in
theorem xcd20 : Cond.code (xyn 20) (xby 20) (xTab 20).2.2.1 (xre 20) ∈ xG := List.mem_filter.mpr ⟨List.mem_of_getElem? (i := 76) rfl, rfl⟩
set_option maxRecDepth 100000 in
theorem xcd21 : Cond.code (xyn 21) (xby 21) (xTab 21).2.2.1 (xre 21) ∈ xG := List.mem_filter.mpr ⟨List.mem_of_getElem? (i := 294) rfl, rfl⟩
set_option maxRecDepth 100000 in
theorem xcd22 : Cond.code (xyn 22) (xby 22) (xTab 22).2.2.1 (xre 22) ∈ xG := List.mem_filter.mpr ⟨List.mem_of_getElem? (i := 298) rfl, rfl⟩
set_option maxRecDepth 100000 in
theorem xcd23 : Cond.code (xyn 23) (xby 23) (xTab 23).2.2.1 (xre 23) ∈ xG := List.mem_filter.mpr ⟨List.mem_of_getElem? (i := 290) rfl, rfl⟩
set_option maxRecDepth 100000 in
theorem xcd24 : Cond.code (xyn 24) (xby 24) (xTab 24).2.2.1 (xre 24) ∈ xG := List.mem_filter.mpr ⟨List.mem_of_getElem? (i := 302) rfl, rfl⟩
set_option maxRecDepth 100000 in
theorem xcd25 : Cond.code (xyn 25) (xby 25) (xTab 25).2.2.1 (xre 25) ∈ xG := List.mem_filter.mpr ⟨List.mem_of_getElem? (i := 327) rfl, rfl⟩
set_option maxRecDepth 100000 in
theorem xcd26 : Cond.code (xyn 26) (xby 26) (xTab 26).2.2.1 (xre 26) ∈ xG := List.mem_filter.mpr ⟨List.mem_of_getElem? (i := 532) rfl, rfl⟩
set_option maxRecDepth 100000 in
theorem xcd27 : Cond.code (xyn 27) (xby 27) (xTab 27).2.2.1 (xre 27) ∈ xG := List.mem_filter.mpr ⟨List.mem_of_getElem? (i := 59) rfl, rfl⟩
set_option maxRecDepth 100000 in
theorem xcd28 : Cond.code (xyn 28) (xby 28) (xTab 28).2.2.1 (xre 28) ∈ xG := List.mem_filter.mpr ⟨List.mem_of_getElem? (i := 278) rfl, rfl⟩
set_option maxRecDepth 100000 in
theorem xcd29 : Cond.code (xyn 29) (xby 29) (xTab 29).2.2.1 (xre 29) ∈ xG := List.mem_filter.mpr ⟨List.mem_of_getElem? (i := 282) rfl, rfl⟩
set_option maxRecDepth 100000 in
theorem xcd30 : Cond.code (xyn 30) (xby 30) (xTab 30).2.2.1 (xre 30) ∈ xG := List.mem_filter.mpr ⟨List.mem_of_getElem? (i := 351) rfl, rfl⟩
set_option maxRecDepth 100000 in
theorem xcd31 : Cond.code (xyn 31) (xby 31) (xTab 31).2.2.1 (xre 31) ∈ xG := List.mem_filter.mpr ⟨List.mem_of_getElem? (i := 626) rfl, rfl⟩
set_option maxRecDepth 100000 in
theorem xcd32 : Cond.code (xyn 32) (xby 32) (xTab 32).2.2.1 (xre 32) ∈ xG := List.mem_filter.mpr ⟨List.mem_of_getElem? (i := 621) rfl, rfl⟩
set_option maxRecDepth 100000 in
theorem xcd33 : Cond.code (xyn 33) (xby 33) (xTab 33).2.2.1 (xre 33) ∈ xG := List.mem_filter.mpr ⟨List.mem_of_getElem? (i := 286) rfl, rfl⟩
set_option maxRecDepth 100000 in
theorem xcd34 : Cond.code (xyn 34) (xby 34) (xTab 34).2.2.1 (xre 34) ∈ xG := List.mem_filter.mpr ⟨List.mem_of_getElem? (i := 402) rfl, rfl⟩
set_option maxRecDepth 100000 in
theorem xcd35 : Cond.code (xyn 35) (xby 35) (xTab 35).2.2.1 (xre 35) ∈ xG := List.mem_filter.mpr ⟨List.mem_of_getElem? (i := 468) rfl, rfl⟩
set_option maxRecDepth 100000 in
theorem xcd36 : Cond.code (xyn 36) (xby 36) (xTab 36).2.2.1 (xre 36) ∈ xG := List.mem_filter.mpr ⟨List.mem_of_getElem? (i := 129) rfl, rfl⟩
set_option maxRecDepth 100000 in
theorem xcd37 : Cond.code (xyn 37) (xby 37) (xTab 37).2.2.1 (xre 37) ∈ xG := List.mem_filter.mpr ⟨List.mem_of_getElem? (i := 589) rfl, rfl⟩
set_option maxRecDepth 100000 in
theorem xcd38 : Cond.code (xyn 38) (xby 38) (xTab 38).2.2.1 (xre 38) ∈ xG := List.mem_filter.mpr ⟨List.mem_of_getElem? (i := 593) rfl, rfl⟩
set_option maxRecDepth 100000 in
theorem xcd39 : Cond.code (xyn 39) (xby 39) (xTab 39).2.2.1 (xre 39) ∈ xG := List.mem_filter.mpr ⟨List.mem_of_getElem? (i := 598) rfl, rfl⟩
set_option maxRecDepth 100000 in
theorem xcd40 : Cond.code (xyn 40) (xby 40) (xTab 40).2.2.1 (xre 40) ∈ xG := List.mem_filter.mpr ⟨List.mem_of_getElem? (i := 426) rfl, rfl⟩
set_option maxRecDepth 100000 in
theorem xcd41 : Cond.code (xyn 41) (xby 41) (xTab 41).2.2.1 (xre 41) ∈ xG := List.mem_filter.mpr ⟨List.mem_of_getElem? (i := 456) rfl, rfl⟩
set_option maxRecDepth 100000 in
theorem xcd42 : Cond.code (xyn 42) (xby 42) (xTab 42).2.2.1 (xre 42) ∈ xG := List.mem_filter.mpr ⟨List.mem_of_getElem? (i := 472) rfl, rfl⟩
set_option maxRecDepth 100000 in
theorem xcd43 : Cond.code (xyn 43) (xby 43) (xTab 43).2.2.1 (xre 43) ∈ xG := List.mem_filter.mpr ⟨List.mem_of_getElem? (i := 477) rfl, rfl⟩
set_option maxRecDepth 100000 in
theorem xcd44 : Cond.code (xyn 44) (xby 44) (xTab 44).2.2.1 (xre 44) ∈ xG := List.mem_filter.mpr ⟨List.mem_of_getElem? (i := 51) rfl, rfl⟩
set_option maxRecDepth 100000 in
theorem xcd45 : Cond.code (xyn 45) (xby 45) (xTab 45).2.2.1 (xre 45) ∈ xG := List.mem_filter.mpr ⟨List.mem_of_getElem? (i := 173) rfl, rfl⟩
set_option maxRecDepth 100000 in
theorem xcd46 : Cond.code (xyn 46) (xby 46) (xTab 46).2.2.1 (xre 46) ∈ xG := List.mem_filter.mpr ⟨List.mem_of_getElem? (i := 177) rfl, rfl⟩
set_option maxRecDepth 100000 in
theorem xcd47 : Cond.code (xyn 47) (xby 47) (xTab 47).2.2.1 (xre 47) ∈ xG := List.mem_filter.mpr ⟨List.mem_of_getElem? (i := 355) rfl, rfl⟩
set_option maxRecDepth 100000 in
theorem xcd48 : Cond.code (xyn 48) (xby 48) (xTab 48).2.2.1 (xre 48) ∈ xG := List.mem_filter.mpr ⟨List.mem_of_getElem? (i := 359) rfl, rfl⟩
set_option maxRecDepth 100000 in
theorem xcd49 : Cond.code (xyn 49) (xby 49) (xTab 49).2.2.1 (xre 49) ∈ xG := List.mem_filter.mpr ⟨List.mem_of_getElem? (i := 367) rfl, rfl⟩
set_option maxRecDepth 100000 in
theorem xcd50 : Cond.code (xyn 50) (xby 50) (xTab 50).2.2.1 (xre 50) ∈ xG := List.mem_filter.mpr ⟨List.mem_of_getElem? (i := 382) rfl, rfl⟩
set_option maxRecDepth 100000 in
theorem xcd51 : Cond.code (xyn 51) (xby 51) (xTab 51).2.2.1 (xre 51) ∈ xG := List.mem_filter.mpr ⟨List.mem_of_getElem? (i := 386) rfl, rfl⟩
set_option maxRecDepth 100000 in
theorem xcd52 : Cond.code (xyn 52) (xby 52) (xTab 52).2.2.1 (xre 52) ∈ xG := List.mem_filter.mpr ⟨List.mem_of_getElem? (i := 390) rfl, rfl⟩
set_option maxRecDepth 100000 in
theorem xcd53 : Cond.code (xyn 53) (xby 53) (xTab 53).2.2.1 (xre 53) ∈ xG := List.mem_filter.mpr ⟨List.mem_of_getElem? (i := 394) rfl, rfl⟩
set_option maxRecDepth 100000 in
theorem xcd54 : Cond.code (xyn 54) (xby 54) (xTab 54).2.2.1 (xre 54) ∈ xG := List.mem_filter.mpr ⟨List.mem_of_getElem? (i := 414) rfl, rfl⟩
set_option maxRecDepth 100000 in
theorem xcd55 : Cond.code (xyn 55) (xby 55) (xTab 55).2.2.1 (xre 55) ∈ xG := List.mem_filter.mpr ⟨List.mem_of_getElem? (i := 422) rfl, rfl⟩
set_option maxRecDepth 100000 in
theorem xcd56 : Cond.code (xyn 56) (xby 56) (xTab 56).2.2.1 (xre 56) ∈ xG := List.mem_filter.mpr ⟨List.mem_of_getElem? (i := 443) rfl, rfl⟩
set_option maxRecDepth 100000 in
theorem xcd57 : Cond.code (xyn 57) (xby 57) (xTab 57).2.2.1 (xre 57) ∈ xG := List.mem_filter.mpr ⟨List.mem_of_getElem? (i := 452) rfl, rfl⟩
set_option maxRecDepth 100000 in
theorem xcd58 : Cond.code (xyn 58) (xby 58) (xTab 58).2.2.1 (xre 58) ∈ xG := List.mem_filter.mpr ⟨List.mem_of_getElem? (i := 460) rfl, rfl⟩
set_option maxRecDepth 100000 in
theorem xcd59 : Cond.code (xyn 59) (xby 59) (xTab 59).2.2.1 (xre 59) ∈ xG := List.mem_filter.mpr ⟨List.mem_of_getElem? (i := 483) rfl, rfl⟩
set_option maxRecDepth 100000 in
theorem xcd60 : Cond.code (xyn 60) (xby 60) (xTab 60).2.2.1 (xre 60) ∈ xG := List.mem_filter.mpr ⟨List.mem_of_getElem? (i := 487) rfl, rfl⟩
set_option maxRecDepth 100000 in
theorem xcd61 : Cond.code (xyn 61) (xby 61) (xTab 61).2.2.1 (xre 61) ∈ xG := List.mem_filter.mpr ⟨List.mem_of_getElem? (i := 522) rfl, rfl⟩
set_option maxRecDepth 100000 in
theorem xcd62 : Cond.code (xyn 62) (xby 62) (xTab 62).2.2.1 (xre 62) ∈ xG := List.mem_filter.mpr ⟨List.mem_of_getElem? (i := 554) rfl, rfl⟩
set_option maxRecDepth 100000 in
theorem xcd63 : Cond.code (xyn 63) (xby 63) (xTab 63).2.2.1 (xre 63) ∈ xG := List.mem_filter.mpr ⟨List.mem_of_getElem? (i := 558) rfl, rfl⟩
set_option maxRecDepth 100000 in
theorem xcd64 : Cond.code (xyn 64) (xby 64) (xTab 64).2.2.1 (xre 64) ∈ xG := List.mem_filter.mpr ⟨List.mem_of_getElem? (i := 574) rfl, rfl⟩
set_option maxRecDepth 100000 in
theorem xcd65 : Cond.code (xyn 65) (xby 65) (xTab 65).2.2.1 (xre 65) ∈ xG := List.mem_filter.mpr ⟨List.mem_of_getElem? (i := 581) rfl, rfl⟩
set_option maxRecDepth 100000 in
theorem xcd66 : Cond.code (xyn 66) (xby 66) (xTab 66).2.2.1 (xre 66) ∈ xG := List.mem_filter.mpr ⟨List.mem_of_getElem? (i := 602) rfl, rfl⟩
set_option maxRecDepth 100000 in
theorem xcd67 : Cond.code (xyn 67) (xby 67) (xTab 67).2.2.1 (xre 67) ∈ xG := List.mem_filter.mpr ⟨List.mem_of_getElem? (i := 606) rfl, rfl⟩
set_option maxRecDepth 100000 in
theorem xcd68 : Cond.code (xyn 68) (xby 68) (xTab 68).2.2.1 (xre 68) ∈ xG := List.mem_filter.mpr ⟨List.mem_of_getElem? (i := 180) rfl, rfl⟩
set_option maxRecDepth 100000 in
theorem xcd69 : Cond.code (xyn 69) (xby 69) (xTab 69).2.2.1 (xre 69) ∈ xG := List.mem_filter.mpr ⟨List.mem_of_getElem? (i := 266) rfl, rfl⟩
set_option maxRecDepth 100000 in
theorem xcd70 : Cond.code (xyn 70) (xby 70) (xTab 70).2.2.1 (xre 70) ∈ xG := List.mem_filter.mpr ⟨List.mem_of_getElem? (i := 397) rfl, rfl⟩
set_option maxRecDepth 100000 in
theorem xcd71 : Cond.code (xyn 71) (xby 71) (xTab 71).2.2.1 (xre 71) ∈ xG := List.mem_filter.mpr ⟨List.mem_of_getElem? (i := 261) rfl, rfl⟩
set_option maxRecDepth 100000 in
theorem xcd72 : Cond.code (xyn 72) (xby 72) (xTab 72).2.2.1 (xre 72) ∈ xG := List.mem_filter.mpr ⟨List.mem_of_getElem? (i := 417) rfl, rfl⟩
set_option maxRecDepth 100000 in
theorem xcd73 : Cond.code (xyn 73) (xby 73) (xTab 73).2.2.1 (xre 73) ∈ xG := List.mem_filter.mpr ⟨List.mem_of_getElem? (i := 253) rfl, rfl⟩
set_option maxRecDepth 100000 in
theorem xcd74 : Cond.code (xyn 74) (xby 74) (xTab 74).2.2.1 (xre 74) ∈ xG := List.mem_filter.mpr ⟨List.mem_of_getElem? (i := 447) rfl, rfl⟩
set_option maxRecDepth 100000 in
theorem xcd75 : Cond.code (xyn 75) (xby 75) (xTab 75).2.2.1 (xre 75) ∈ xG := List.mem_filter.mpr ⟨List.mem_of_getElem? (i := 526) rfl, rfl⟩
set_option maxRecDepth 100000 in
theorem xcd76 : Cond.code (xyn 76) (xby 76) (xTab 76).2.2.1 (xre 76) ∈ xG := List.mem_filter.mpr ⟨List.mem_of_getElem? (i := 585) rfl, rfl⟩
set_option maxRecDepth 100000 in
theorem xcd77 : Cond.code (xyn 77) (xby 77) (xTab 77).2.2.1 (xre 77) ∈ xG := List.mem_filter.mpr ⟨List.mem_of_getElem? (i := 577) rfl, rfl⟩
set_option maxRecDepth 100000 in
theorem xcd78 : Cond.code (xyn 78) (xby 78) (xTab 78).2.2.1 (xre 78) ∈ xG := List.mem_filter.mpr ⟨List.mem_of_getElem? (i := 372) rfl, rfl⟩
set_option maxRecDepth 100000 in
theorem xcd79 : Cond.code (xyn 79) (xby 79) (xTab 79).2.2.1 (xre 79) ∈ xG := List.mem_filter.mpr ⟨List.mem_of_getElem? (i := 464) rfl, rfl⟩
set_option maxRecDepth 100000 in
theorem xcd80 : Cond.code (xyn 80) (xby 80) (xTab 80).2.2.1 (xre 80) ∈ xG := List.mem_filter.mpr ⟨List.mem_of_getElem? (i := 363) rfl, rfl⟩
set_option maxRecDepth 100000 in
theorem xcd81 : Cond.code (xyn 81) (xby 81) (xTab 81).2.2.1 (xre 81) ∈ xG := List.mem_filter.mpr ⟨List.mem_of_getElem? (i := 249) rfl, rfl⟩
set_option maxRecDepth 100000 in
theorem xcd82 : Cond.code (xyn 82) (xby 82) (xTab 82).2.2.1 (xre 82) ∈ xG := List.mem_filter.mpr ⟨List.mem_of_getElem? (i := 562) rfl, rfl⟩
set_option maxRecDepth 100000 in
theorem xcd83 : Cond.code (xyn 83) (xby 83) (xTab 83).2.2.1 (xre 83) ∈ xG := List.mem_filter.mpr ⟨List.mem_of_getElem? (i := 570) rfl, rfl⟩
set_option maxRecDepth 100000 in
theorem xcd84 : Cond.code (xyn 84) (xby 84) (xTab 84).2.2.1 (xre 84) ∈ xG := List.mem_filter.mpr ⟨List.mem_of_getElem? (i := 630) rfl, rfl⟩
set_option maxRecDepth 100000 in
theorem xcd85 : Cond.code (xyn 85) (xby 85) (xTab 85).2.2.1 (xre 85) ∈ xG := List.mem_filter.mpr ⟨List.mem_of_getElem? (i := 634) rfl, rfl⟩
set_option maxRecDepth 100000 in
theorem xcd86 : Cond.code (xyn 86) (xby 86) (xTab 86).2.2.1 (xre 86) ∈ xG := List.mem_filter.mpr ⟨List.mem_of_getElem? (i := 639) rfl, rfl⟩
set_option maxRecDepth 100000 in
theorem xcd87 : Cond.code (xyn 87) (xby 87) (xTab 87).2.2.1 (xre 87) ∈ xG := List.mem_filter.mpr ⟨List.mem_of_getElem? (i := 744) rfl, rfl⟩
set_option maxRecDepth 100000 in
theorem xcd88 : Cond.code (xyn 88) (xby 88) (xTab 88).2.2.1 (xre 88) ∈ xG := List.mem_filter.mpr ⟨List.mem_of_getElem? (i := 737) rfl, rfl⟩
set_option maxRecDepth 100000 in
theorem xcd89 : Cond.code (xyn 89) (xby 89) (xTab 89).2.2.1 (xre 89) ∈ xG := List.mem_filter.mpr ⟨List.mem_of_getElem? (i := 761) rfl, rfl⟩
set_option maxRecDepth 100000 in
theorem xcd90 : Cond.code (xyn 90) (xby 90) (xTab 90).2.2.1 (xre 90) ∈ xG := List.mem_filter.mpr ⟨List.mem_of_getElem? (i := 769) rfl, rfl⟩
set_option maxRecDepth 100000 in
theorem xcd91 : Cond.code (xyn 91) (xby 91) (xTab 91).2.2.1 (xre 91) ∈ xG := List.mem_filter.mpr ⟨List.mem_of_getElem? (i := 765) rfl, rfl⟩
set_option maxRecDepth 100000 in
theorem xcd92 : Cond.code (xyn 92) (xby 92) (xTab 92).2.2.1 (xre 92) ∈ xG := List.mem_filter.mpr ⟨List.mem_of_getElem? (i := 778) rfl, rfl⟩
set_option maxRecDepth 100000 in
theorem xcd93 : Cond.code (xyn 93) (xby 93) (xTab 93).2.2.1 (xre 93) ∈ xG := List.mem_filter.mpr ⟨List.mem_of_getElem? (i := 782) rfl, rfl⟩
set_option maxRecDepth 100000 in
theorem xcd94 : Cond.code (xyn 94) (xby 94) (xTab 94).2.2.1 (xre 94) ∈ xG := List.mem_filter.mpr ⟨List.mem_of_getElem? (i := 774) rfl, rfl⟩
set_option maxRecDepth 100000 in
theorem xcd95 : Cond.code (xyn 95) (xby 95) (xTab 95).2.2.1 (xre 95) ∈ xG := List.mem_filter.mpr ⟨List.mem_of_getElem? (i := 753) rfl, rfl⟩
set_option maxRecDepth 100000 in
theorem xcd96 : Cond.code (xyn 96) (xby 96) (xTab 96).2.2.1 (xre 96) ∈ xG := List.mem_filter.mpr ⟨List.mem_of_getElem? (i := 747) rfl, rfl⟩
set_option maxRecDepth 100000 in
theorem xcd97 : Cond.code (xyn 97) (xby 97) (xTab 97).2.2.1 (xre 97) ∈ xG := List.mem_filter.mpr ⟨List.mem_of_getElem? (i := 741) rfl, rfl⟩
set_option maxRecDepth 100000 in
theorem xcd98 : Cond.code (xyn 98) (xby 98) (xTab 98).2.2.1 (xre 98) ∈ xG := List.mem_filter.mpr ⟨List.mem_of_getElem? (i := 786) rfl, rfl⟩
set_option maxRecDepth 100000 in
theorem xcd99 : Cond.code (xyn 99) (xby 99) (xTab 99).2.2.1 (xre 99) ∈ xG := List.mem_filter.mpr ⟨List.mem_of_getElem? (i := 790) rfl, rfl⟩
set_option maxRecDepth 100000 in
theorem xcd100 : Cond.code (xyn 100) (xby 100) (xTab 100).2.2.1 (xre 100) ∈ xG := List.mem_filter.mpr ⟨List.mem_of_getElem? (i := 798) rfl, rfl⟩
set_option maxRecDepth 100000 in
theorem xcd101 : Cond.code (xyn 101) (xby 101) (xTab 101).2.2.1 (xre 101) ∈ xG := List.mem_filter.mpr ⟨List.mem_of_getElem? (i := 794) rfl, rfl⟩
set_option maxRecDepth 100000 in
theorem xcd102 : Cond.code (xyn 102) (xby 102) (xTab 102).2.2.1 (xre 102) ∈ xG := List.mem_filter.mpr ⟨List.mem_of_getElem? (i := 757) rfl, rfl⟩
set_option maxRecDepth 100000 in
theorem xcd103 : Cond.code (xyn 103) (xby 103) (xTab 103).2.2.1 (xre 103) ∈ xG := List.mem_filter.mpr ⟨List.mem_of_getElem? (i := 803) rfl, rfl⟩
set_option maxRecDepth 100000 in
theorem xcd104 : Cond.code (xyn 104) (xby 104) (xTab 104).2.2.1 (xre 104) ∈ xG := List.mem_filter.mpr ⟨List.mem_of_getElem? (i := 807) rfl, rfl⟩
set_option maxRecDepth 100000 in
theorem xcd105 : Cond.code (xyn 105) (xby 105) (xTab 105).2.2.1 (xre 105) ∈ xG := List.mem_filter.mpr ⟨List.mem_of_getElem? (i := 814) rfl, rfl⟩
set_option maxRecDepth 100000 in
theorem xcd106 : Cond.code (xyn 106) (xby 106) (xTab 106).2.2.1 (xre 106) ∈ xG := List.mem_filter.mpr ⟨List.mem_of_getElem? (i := 811) rfl, rfl⟩
set_option maxRecDepth 100000 in
theorem xcd107 : Cond.code (xyn 107) (xby 107) (xTab 107).2.2.1 (xre 107) ∈ xG := List.mem_filter.mpr ⟨List.mem_of_getElem? (i := 818) rfl, rfl⟩
set_option maxRecDepth 100000 in
theorem xcd108 : Cond.code (xyn 108) (xby 108) (xTab 108).2.2.1 (xre 108) ∈ xG := List.mem_filter.mpr ⟨List.mem_of_getElem? (i := 837) rfl, rfl⟩
set_option maxRecDepth 100000 in
theorem xcd109 : Cond.code (xyn 109) (xby 109) (xTab 109).2.2.1 (xre 109) ∈ xG := List.mem_filter.mpr ⟨List.mem_of_getElem? (i := 822) rfl, rfl⟩
set_option maxRecDepth 100000 in
theorem xcd110 : Cond.code (xyn 110) (xby 110) (xTab 110).2.2.1 (xre 110) ∈ xG := List.mem_filter.mpr ⟨List.mem_of_getElem? (i := 830) rfl, rfl⟩
set_option maxRecDepth 100000 in
theorem xcd111 : Cond.code (xyn 111) (xby 111) (xTab 111).2.2.1 (xre 111) ∈ xG := List.mem_filter.mpr ⟨List.mem_of_getElem? (i := 826) rfl, rfl⟩
set_option maxRecDepth 100000 in
theorem xcd112 : Cond.code (xyn 112) (xby 112) (xTab 112).2.2.1 (xre 112) ∈ xG := List.mem_filter.mpr ⟨List.mem_of_getElem? (i := 834) rfl, rfl⟩
set_option maxRecDepth 100000 in
theorem xcd113 : Cond.code (xyn 113) (xby 113) (xTab 113).2.2.1 (xre 113) ∈ xG := List.mem_filter.mpr ⟨List.mem_of_getElem? (i := 845) rfl, rfl⟩
set_option maxRecDepth 100000 in
theorem xcd114 : Cond.code (xyn 114) (xby 114) (xTab 114).2.2.1 (xre 114) ∈ xG := List.mem_filter.mpr ⟨List.mem_of_getElem? (i := 849) rfl, rfl⟩
set_option maxRecDepth 100000 in
theorem xcd115 : Cond.code (xyn 115) (xby 115) (xTab 115).2.2.1 (xre 115) ∈ xG := List.mem_filter.mpr ⟨List.mem_of_getElem? (i := 841) rfl, rfl⟩
set_option maxRecDepth 100000 in
theorem xcd116 : Cond.code (xyn 116) (xby 116) (xTab 116).2.2.1 (xre 116) ∈ xG := List.mem_filter.mpr ⟨List.mem_of_getElem? (i := 853) rfl, rfl⟩
set_option maxRecDepth 100000 in
theorem xcd117 : Cond.code (xyn 117) (xby 117) (xTab 117).2.2.1 (xre 117) ∈ xG := List.mem_filter.mpr ⟨List.mem_of_getElem? (i := 857) rfl, rfl⟩
set_option maxRecDepth 100000 in
theorem xcd118 : Cond.code (xyn 118) (xby 118) (xTab 118).2.2.1 (xre 118) ∈ xG := List.mem_filter.mpr ⟨List.mem_of_getElem? (i := 865) rfl, rfl⟩
set_option maxRecDepth 100000 in
theorem xcd119 : Cond.code (xyn 119) (xby 119) (xTab 119).2.2.1 (xre 119) ∈ xG := List.mem_filter.mpr ⟨List.mem_of_getElem? (i := 861) rfl, rfl⟩
set_option maxRecDepth 100000 in
theorem xcd120 : Cond.code (xyn 120) (xby 120) (xTab 120).2.2.1 (xre 120) ∈ xG := List.mem_filter.mpr ⟨List.mem_of_getElem? (i := 869) rfl, rfl⟩
set_option maxRecDepth 100000 in
theorem xcd121 : Cond.code (xyn 121) (xby 121) (xTab 121).2.2.1 (xre 121) ∈ xG := List.mem_filter.mpr ⟨List.mem_of_getElem? (i := 873) rfl, rfl⟩
set_option maxRecDepth 100000 in
theorem xcd122 : Cond.code (xyn 122) (xby 122) (xTab 122).2.2.1 (xre 122) ∈ xG := List.mem_filter.mpr ⟨List.mem_of_getElem? (i := 877) rfl, rfl⟩
set_option maxRecDepth 100000 in
theorem xcd123 : Cond.code (xyn 123) (xby 123) (xTab 123).2.2.1 (xre 123) ∈ xG := List.mem_filter.mpr ⟨List.mem_of_getElem? (i := 881) rfl, rfl⟩
set_option maxRecDepth 100000 in
theorem xcd124 : Cond.code (xyn 124) (xby 124) (xTab 124).2.2.1 (xre 124) ∈ xG := List.mem_filter.mpr ⟨List.mem_of_getElem? (i := 885) rfl, rfl⟩
set_option maxRecDepth 100000 in
theorem xcd125 : Cond.code (xyn 125) (xby 125) (xTab 125).2.2.1 (xre 125) ∈ xG := List.mem_filter.mpr ⟨List.mem_of_getElem? (i := 889) rfl, rfl⟩
set_option maxRecDepth 100000 in
theorem xcd126 : Cond.code (xyn 126) (xby 126) (xTab 126).2.2.1 (xre 126) ∈ xG := List.mem_filter.mpr ⟨List.mem_of_getElem? (i := 894) rfl, rfl⟩
set_option maxRecDepth 100000 in
theorem xcd127 : Cond.code (xyn 127) (xby 127) (xTab 127).2.2.1 (xre 127) ∈ xG := List.mem_filter.mpr ⟨List.mem_of_getElem? (i := 902) rfl, rfl⟩
set_option maxRecDepth 100000 in
theorem xcd128 : Cond.code (xyn 128) (xby 128) (xTab 128).2.2.1 (xre 128) ∈ xG := List.mem_filter.mpr ⟨List.mem_of_getElem? (i := 906) rfl, rfl⟩
set_option maxRecDepth 100000 in
theorem xcd129 : Cond.code (xyn 129) (xby 129) (xTab 129).2.2.1 (xre 129) ∈ xG := List.mem_filter.mpr ⟨List.mem_of_getElem? (i := 898) rfl, rfl⟩
set_option maxRecDepth 100000 in
theorem xcd130 : Cond.code (xyn 130) (xby 130) (xTab 130).2.2.1 (xre 130) ∈ xG := List.mem_filter.mpr ⟨List.mem_of_getElem? (i := 340) rfl, rfl⟩
theorem xcodeW : ∀ j, j < 131 → Cond.code (xyn j) (xby j) (xTab j).2.2.1 (xre j) ∈ xG := by
  intro j hj
  match j, hj with
  | 0, _ => exact xcd0
  | 1, _ => exact xcd1
  | 2, _ => exact xcd2
  | 3, _ => exact xcd3
  | 4, _ => exact xcd4
  | 5, _ => exact xcd5
  | 6, _ => exact xcd6
  | 7, _ => exact xcd7
  | 8, _ => exact xcd8
  | 9, _ => exact xcd9
  | 10, _ => exact xcd10
  | 11, _ => exact xcd11
  | 12, _ => exact xcd12
  | 13, _ => exact xcd13
  | 14, _ => exact xcd14
  | 15, _ => exact xcd15
  | 16, _ => exact xcd16
  | 17, _ => exact xcd17
  | 18, _ => exact xcd18
  | 19, _ => exact xcd19
  | 20, _ => exact xcd20
  | 21, _ => exact xcd21
  | 22, _ => exact xcd22
  | 23, _ => exact xcd23
  | 24, _ => exact xcd24
  | 25, _ => exact xcd25
  | 26, _ => exact xcd26
  | 27, _ => exact xcd27
  | 28, _ => exact xcd28
  | 29, _ => exact xcd29
  | 30, _ => exact xcd30
  | 31, _ => exact xcd31
  | 32, _ => exact xcd32
  | 33, _ => exact xcd33
  | 34, _ => exact xcd34
  | 35, _ => exact xcd35
  | 36, _ => exact xcd36
  | 37, _ => exact xcd37
  | 38, _ => exact xcd38
  | 39, _ => exact xcd39
  | 40, _ => exact xcd40
  | 41, _ => exact xcd41
  | 42, _ => exact xcd42
  | 43, _ => exact xcd43
  | 44, _ => exact xcd44
  | 45, _ => exact xcd45
  | 46, _ => exact xcd46
  | 47, _ => exact xcd47
  | 48, _ => exact xcd48
  | 49, _ => exact xcd49
  | 50, _ => exact xcd50
  | 51, _ => exact xcd51
  | 52, _ => exact xcd52
  | 53, _ => exact xcd53
  | 54, _ => exact xcd54
  | 55, _ => exact xcd55
  | 56, _ => exact xcd56
  | 57, _ => exact xcd57
  | 58, _ => exact xcd58
  | 59, _ => exact xcd59
  | 60, _ => exact xcd60
  | 61, _ => exact xcd61
  | 62, _ => exact xcd62
  | 63, _ => exact xcd63
  | 64, _ => exact xcd64
  | 65, _ => exact xcd65
  | 66, _ => exact xcd66
  | 67, _ => exact xcd67
  | 68, _ => exact xcd68
  | 69, _ => exact xcd69
  | 70, _ => exact xcd70
  | 71, _ => exact xcd71
  | 72, _ => exact xcd72
  | 73, _ => exact xcd73
  | 74, _ => exact xcd74
  | 75, _ => exact xcd75
  | 76, _ => exact xcd76
  | 77, _ => exact xcd77
  | 78, _ => exact xcd78
  | 79, _ => exact xcd79
  | 80, _ => exact xcd80
  | 81, _ => exact xcd81
  | 82, _ => exact xcd82
  | 83, _ => exact xcd83
  | 84, _ => exact xcd84
  | 85, _ => exact xcd85
  | 86, _ => exact xcd86
  | 87, _ => exact xcd87
  | 88, _ => exact xcd88
  | 89, _ => exact xcd89
  | 90, _ => exact xcd90
  | 91, _ => exact xcd91
  | 92, _ => exact xcd92
  | 93, _ => exact xcd93
  | 94, _ => exact xcd94
  | 95, _ => exact xcd95
  | 96, _ => exact xcd96
  | 97, _ => exact xcd97
  | 98, _ => exact xcd98
  | 99, _ => exact xcd99
  | 100, _ => exact xcd100
  | 101, _ => exact xcd101
  | 102, _ => exact xcd102
  | 103, _ => exact xcd103
  | 104, _ => exact xcd104
  | 105, _ => exact xcd105
  | 106, _ => exact xcd106
  | 107, _ => exact xcd107
  | 108, _ => exact xcd108
  | 109, _ => exact xcd109
  | 110, _ => exact xcd110
  | 111, _ => exact xcd111
  | 112, _ => exact xcd112
  | 113, _ => exact xcd113
  | 114, _ => exact xcd114
  | 115, _ => exact xcd115
  | 116, _ => exact xcd116
  | 117, _ => exact xcd117
  | 118, _ => exact xcd118
  | 119, _ => exact xcd119
  | 120, _ => exact xcd120
  | 121, _ => exact xcd121
  | 122, _ => exact xcd122
  | 123, _ => exact xcd123
  | 124, _ => exact xcd124
  | 125, _ => exact xcd125
  | 126, _ => exact xcd126
  | 127, _ => exact xcd127
  | 128, _ => exact xcd128
  | 129, _ => exact xcd129
  | 130, _ => exact xcd130
  | n + 131, h => exact absurd h (by omega)
