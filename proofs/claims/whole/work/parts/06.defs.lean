/-! ===== shapes and references of both objects, machine per method (by program) ===== -/
/-- now, spare, the reader's board and text, the script's length -/
abbrev QP : Type := Nat × Nat × Nat × Nat × Nat
def q_S0 (e : QP) (p : Nat) : Nat × Nat := (cond (Nat.blt p 60) (cond (Nat.blt p 30) (cond (Nat.blt p 15) (cond (Nat.blt p 8) (cond (Nat.blt p 4) (cond (Nat.blt p 2) (cond (Nat.beq p 1) (11, 16) (0, 0)) (cond (Nat.blt p 3) (cond (Nat.beq p 2) (21, 1600) (0, 0)) (cond (Nat.beq p 3) (1, 16) (0, 0)))) (cond (Nat.blt p 6) (cond (Nat.blt p 5) (cond (Nat.beq p 4) (23, 4) (0, 0)) (cond (Nat.beq p 5) (22, 4) (0, 0))) (cond (Nat.blt p 7) (cond (Nat.beq p 6) (22, 4) (0, 0)) (cond (Nat.beq p 7) (22, 4) (0, 0))))) (cond (Nat.blt p 11) (cond (Nat.blt p 9) (cond (Nat.beq p 8) (23, 6) (0, 0)) (cond (Nat.blt p 10) (cond (Nat.beq p 9) (22, 6) (0, 0)) (cond (Nat.beq p 10) (22, 6) (0, 0)))) (cond (Nat.blt p 13) (cond (Nat.blt p 12) (cond (Nat.beq p 11) (22, 6) (0, 0)) (cond (Nat.beq p 12) (22, 24) (0, 0))) (cond (Nat.blt p 14) (cond (Nat.beq p 13) (3, 5) (0, 0)) (cond (Nat.beq p 14) (4, 4) (0, 0)))))) (cond (Nat.blt p 22) (cond (Nat.blt p 18) (cond (Nat.blt p 16) (cond (Nat.beq p 15) (22, 300) (0, 0)) (cond (Nat.blt p 17) (cond (Nat.beq p 16) (22, 30) (0, 0)) (cond (Nat.beq p 17) (1, 16) (0, 0)))) (cond (Nat.blt p 20) (cond (Nat.blt p 19) (cond (Nat.beq p 18) (23, 4) (0, 0)) (cond (Nat.beq p 19) (22, 4) (0, 0))) (cond (Nat.blt p 21) (cond (Nat.beq p 20) (22, 4) (0, 0)) (cond (Nat.beq p 21) (22, 4) (0, 0))))) (cond (Nat.blt p 26) (cond (Nat.blt p 24) (cond (Nat.blt p 23) (cond (Nat.beq p 22) (23, 6) (0, 0)) (cond (Nat.beq p 23) (22, 6) (0, 0))) (cond (Nat.blt p 25) (cond (Nat.beq p 24) (22, 6) (0, 0)) (cond (Nat.beq p 25) (22, 6) (0, 0)))) (cond (Nat.blt p 28) (cond (Nat.blt p 27) (cond (Nat.beq p 26) (22, 24) (0, 0)) (cond (Nat.beq p 27) (3, 5) (0, 0))) (cond (Nat.blt p 29) (cond (Nat.beq p 28) (4, 4) (0, 0)) (cond (Nat.beq p 29) (22, 300) (0, 0))))))) (cond (Nat.blt p 45) (cond (Nat.blt p 37) (cond (Nat.blt p 33) (cond (Nat.blt p 31) (cond (Nat.beq p 30) (22, 30) (0, 0)) (cond (Nat.blt p 32) (cond (Nat.beq p 31) (9, 14) (0, 0)) (cond (Nat.beq p 32) (23, 21) (0, 0)))) (cond (Nat.blt p 35) (cond (Nat.blt p 34) (cond (Nat.beq p 33) (21, 0) (0, 0)) (cond (Nat.beq p 34) (10, 2) (0, 0))) (cond (Nat.blt p 36) (cond (Nat.beq p 35) (22, 16) (0, 0)) (cond (Nat.beq p 36) (22, 16) (0, 0))))) (cond (Nat.blt p 41) (cond (Nat.blt p 39) (cond (Nat.blt p 38) (cond (Nat.beq p 37) (2, 9) (0, 0)) (cond (Nat.beq p 38) (22, 4) (0, 0))) (cond (Nat.blt p 40) (cond (Nat.beq p 39) (22, 4) (0, 0)) (cond (Nat.beq p 40) (22, 4) (0, 0)))) (cond (Nat.blt p 43) (cond (Nat.blt p 42) (cond (Nat.beq p 41) (22, 4) (0, 0)) (cond (Nat.beq p 42) (3, 5) (0, 0))) (cond (Nat.blt p 44) (cond (Nat.beq p 43) (22, 16) (0, 0)) (cond (Nat.beq p 44) (8, 6) (0, 0)))))) (cond (Nat.blt p 52) (cond (Nat.blt p 48) (cond (Nat.blt p 46) (cond (Nat.beq p 45) (22, 984) (0, 0)) (cond (Nat.blt p 47) (cond (Nat.beq p 46) (22, 72) (0, 0)) (cond (Nat.beq p 47) (24, 3) (0, 0)))) (cond (Nat.blt p 50) (cond (Nat.blt p 49) (cond (Nat.beq p 48) (5, 6) (0, 0)) (cond (Nat.beq p 49) (22, 6) (0, 0))) (cond (Nat.blt p 51) (cond (Nat.beq p 50) (22, 6) (0, 0)) (cond (Nat.beq p 51) (3, 5) (0, 0))))) (cond (Nat.blt p 56) (cond (Nat.blt p 54) (cond (Nat.blt p 53) (cond (Nat.beq p 52) (6, 4) (0, 0)) (cond (Nat.beq p 53) (22, 915) (0, 0))) (cond (Nat.blt p 55) (cond (Nat.beq p 54) (22, 15) (0, 0)) (cond (Nat.beq p 55) (3, 5) (0, 0)))) (cond (Nat.blt p 58) (cond (Nat.blt p 57) (cond (Nat.beq p 56) (7, 8) (0, 0)) (cond (Nat.beq p 57) (22, 30) (0, 0))) (cond (Nat.blt p 59) (cond (Nat.beq p 58) (22, 30) (0, 0)) (cond (Nat.beq p 59) (22, 30) (0, 0)))))))) (cond (Nat.blt p 90) (cond (Nat.blt p 75) (cond (Nat.blt p 67) (cond (Nat.blt p 63) (cond (Nat.blt p 61) (cond (Nat.beq p 60) (22, 30) (0, 0)) (cond (Nat.blt p 62) (cond (Nat.beq p 61) (22, 30) (0, 0)) (cond (Nat.beq p 62) (22, 30) (0, 0)))) (cond (Nat.blt p 65) (cond (Nat.blt p 64) (cond (Nat.beq p 63) (22, 16) (0, 0)) (cond (Nat.beq p 64) (12, 84) (0, 0))) (cond (Nat.blt p 66) (cond (Nat.beq p 65) (22, 1600) (0, 0)) (cond (Nat.beq p 66) (23, 10) (0, 0))))) (cond (Nat.blt p 71) (cond (Nat.blt p 69) (cond (Nat.blt p 68) (cond (Nat.beq p 67) (22, 320) (0, 0)) (cond (Nat.beq p 68) (22, 320) (0, 0))) (cond (Nat.blt p 70) (cond (Nat.beq p 69) (22, 320) (0, 0)) (cond (Nat.beq p 70) (22, 320) (0, 0)))) (cond (Nat.blt p 73) (cond (Nat.blt p 72) (cond (Nat.beq p 71) (22, 160) (0, 0)) (cond (Nat.beq p 72) (22, 64) (0, 0))) (cond (Nat.blt p 74) (cond (Nat.beq p 73) (22, 4) (0, 0)) (cond (Nat.beq p 74) (22, 4) (0, 0)))))) (cond (Nat.blt p 82) (cond (Nat.blt p 78) (cond (Nat.blt p 76) (cond (Nat.beq p 75) (22, 4) (0, 0)) (cond (Nat.blt p 77) (cond (Nat.beq p 76) (22, 4) (0, 0)) (cond (Nat.beq p 77) (22, 24) (0, 0)))) (cond (Nat.blt p 80) (cond (Nat.blt p 79) (cond (Nat.beq p 78) (22, 24) (0, 0)) (cond (Nat.beq p 79) (22, 6) (0, 0))) (cond (Nat.blt p 81) (cond (Nat.beq p 80) (22, 6) (0, 0)) (cond (Nat.beq p 81) (22, 4) (0, 0))))) (cond (Nat.blt p 86) (cond (Nat.blt p 84) (cond (Nat.blt p 83) (cond (Nat.beq p 82) (22, 36) (0, 0)) (cond (Nat.beq p 83) (22, 4) (0, 0))) (cond (Nat.blt p 85) (cond (Nat.beq p 84) (22, 4) (0, 0)) (cond (Nat.beq p 85) (22, 4) (0, 0)))) (cond (Nat.blt p 88) (cond (Nat.blt p 87) (cond (Nat.beq p 86) (22, 24) (0, 0)) (cond (Nat.beq p 87) (22, 24) (0, 0))) (cond (Nat.blt p 89) (cond (Nat.beq p 88) (22, 6) (0, 0)) (cond (Nat.beq p 89) (22, 6) (0, 0))))))) (cond (Nat.blt p 105) (cond (Nat.blt p 97) (cond (Nat.blt p 93) (cond (Nat.blt p 91) (cond (Nat.beq p 90) (22, 4) (0, 0)) (cond (Nat.blt p 92) (cond (Nat.beq p 91) (22, 36) (0, 0)) (cond (Nat.beq p 92) (22, 24) (0, 0)))) (cond (Nat.blt p 95) (cond (Nat.blt p 94) (cond (Nat.beq p 93) (22, 65) (0, 0)) (cond (Nat.beq p 94) (22, 65) (0, 0))) (cond (Nat.blt p 96) (cond (Nat.beq p 95) (22, 256) (0, 0)) (cond (Nat.beq p 96) (22, 16) (0, 0))))) (cond (Nat.blt p 101) (cond (Nat.blt p 99) (cond (Nat.blt p 98) (cond (Nat.beq p 97) (22, 16) (0, 0)) (cond (Nat.beq p 98) (22, 16) (0, 0))) (cond (Nat.blt p 100) (cond (Nat.beq p 99) (22, 6) (0, 0)) (cond (Nat.beq p 100) (22, 6) (0, 0)))) (cond (Nat.blt p 103) (cond (Nat.blt p 102) (cond (Nat.beq p 101) (22, 2600) (0, 0)) (cond (Nat.beq p 102) (22, 24) (0, 0))) (cond (Nat.blt p 104) (cond (Nat.beq p 103) (22, 6) (0, 0)) (cond (Nat.beq p 104) (22, 1464) (0, 0)))))) (cond (Nat.blt p 112) (cond (Nat.blt p 108) (cond (Nat.blt p 106) (cond (Nat.beq p 105) (22, 30) (0, 0)) (cond (Nat.blt p 107) (cond (Nat.beq p 106) (22, 30) (0, 0)) (cond (Nat.beq p 107) (22, 30) (0, 0)))) (cond (Nat.blt p 110) (cond (Nat.blt p 109) (cond (Nat.beq p 108) (22, 30) (0, 0)) (cond (Nat.beq p 109) (22, 30) (0, 0))) (cond (Nat.blt p 111) (cond (Nat.beq p 110) (24, 30) (0, 0)) (cond (Nat.beq p 111) (24, 61) (0, 0))))) (cond (Nat.blt p 1002) (cond (Nat.blt p 1000) (cond (Nat.blt p 113) (cond (Nat.beq p 112) (24, 3) (0, 0)) (cond (Nat.beq p 113) (22, 195) (0, 0))) (cond (Nat.blt p 1001) (cond (Nat.beq p 1000) (30, 32) (0, 0)) (cond (Nat.beq p 1001) (30, 15) (0, 0)))) (cond (Nat.blt p 1004) (cond (Nat.blt p 1003) (cond (Nat.beq p 1002) (30, 15) (0, 0)) (cond (Nat.beq p 1003) (30, 7) (0, 0))) (cond (Nat.blt p 1010) (cond (Nat.beq p 1004) (30, e.2.2.2.2) (0, 0)) (cond (Nat.beq p 1010) (40, 0) (0, 0)))))))))
def q_R1 (n : Nat) : Nat := (cond (Nat.blt n 5601) (cond (Nat.blt n 1707) (cond (Nat.blt n 306) (cond (Nat.blt n 109) (cond (Nat.blt n 106) (cond (Nat.blt n 104) (cond (Nat.beq n 100) 2 0) (cond (Nat.blt n 105) (cond (Nat.beq n 104) 31 0) (cond (Nat.beq n 105) 34 0))) (cond (Nat.blt n 107) (cond (Nat.beq n 106) 37 0) (cond (Nat.blt n 108) (cond (Nat.beq n 107) 44 0) (cond (Nat.beq n 108) 48 0)))) (cond (Nat.blt n 301) (cond (Nat.blt n 110) (cond (Nat.beq n 109) 52 0) (cond (Nat.blt n 111) (cond (Nat.beq n 110) 56 0) (cond (Nat.beq n 111) 63 0))) (cond (Nat.blt n 303) (cond (Nat.blt n 302) (cond (Nat.beq n 301) 4 0) (cond (Nat.beq n 302) 5 0)) (cond (Nat.blt n 304) (cond (Nat.beq n 303) 6 0) (cond (Nat.beq n 304) 7 0))))) (cond (Nat.blt n 1400) (cond (Nat.blt n 309) (cond (Nat.blt n 307) (cond (Nat.beq n 306) 8 0) (cond (Nat.blt n 308) (cond (Nat.beq n 307) 9 0) (cond (Nat.beq n 308) 10 0))) (cond (Nat.blt n 312) (cond (Nat.blt n 310) (cond (Nat.beq n 309) 11 0) (cond (Nat.beq n 310) 12 0)) (cond (Nat.blt n 313) (cond (Nat.beq n 312) 13 0) (cond (Nat.beq n 313) 14 0)))) (cond (Nat.blt n 1702) (cond (Nat.blt n 1401) (cond (Nat.beq n 1400) 15 0) (cond (Nat.blt n 1701) (cond (Nat.beq n 1401) 16 0) (cond (Nat.beq n 1701) 18 0))) (cond (Nat.blt n 1704) (cond (Nat.blt n 1703) (cond (Nat.beq n 1702) 19 0) (cond (Nat.beq n 1703) 20 0)) (cond (Nat.blt n 1706) (cond (Nat.beq n 1704) 21 0) (cond (Nat.beq n 1706) 22 0)))))) (cond (Nat.blt n 3705) (cond (Nat.blt n 2800) (cond (Nat.blt n 1710) (cond (Nat.blt n 1708) (cond (Nat.beq n 1707) 23 0) (cond (Nat.blt n 1709) (cond (Nat.beq n 1708) 24 0) (cond (Nat.beq n 1709) 25 0))) (cond (Nat.blt n 1712) (cond (Nat.beq n 1710) 26 0) (cond (Nat.blt n 1713) (cond (Nat.beq n 1712) 27 0) (cond (Nat.beq n 1713) 28 0)))) (cond (Nat.blt n 3400) (cond (Nat.blt n 2801) (cond (Nat.beq n 2800) 29 0) (cond (Nat.blt n 3100) (cond (Nat.beq n 2801) 30 0) (cond (Nat.beq n 3100) 32 0))) (cond (Nat.blt n 3703) (cond (Nat.blt n 3401) (cond (Nat.beq n 3400) 35 0) (cond (Nat.beq n 3401) 36 0)) (cond (Nat.blt n 3704) (cond (Nat.beq n 3703) 38 0) (cond (Nat.beq n 3704) 39 0))))) (cond (Nat.blt n 4800) (cond (Nat.blt n 3708) (cond (Nat.blt n 3706) (cond (Nat.beq n 3705) 40 0) (cond (Nat.blt n 3707) (cond (Nat.beq n 3706) 41 0) (cond (Nat.beq n 3707) 42 0))) (cond (Nat.blt n 4404) (cond (Nat.blt n 4400) (cond (Nat.beq n 3708) 43 0) (cond (Nat.beq n 4400) 45 0)) (cond (Nat.blt n 4405) (cond (Nat.beq n 4404) 46 0) (cond (Nat.beq n 4405) 47 0)))) (cond (Nat.blt n 5200) (cond (Nat.blt n 4801) (cond (Nat.beq n 4800) 49 0) (cond (Nat.blt n 4804) (cond (Nat.beq n 4801) 50 0) (cond (Nat.beq n 4804) 51 0))) (cond (Nat.blt n 5203) (cond (Nat.blt n 5201) (cond (Nat.beq n 5200) 53 0) (cond (Nat.beq n 5201) 54 0)) (cond (Nat.blt n 5600) (cond (Nat.beq n 5203) 55 0) (cond (Nat.beq n 5600) 57 0))))))) (cond (Nat.blt n 6441) (cond (Nat.blt n 6426) (cond (Nat.blt n 6410) (cond (Nat.blt n 5604) (cond (Nat.blt n 5602) (cond (Nat.beq n 5601) 58 0) (cond (Nat.blt n 5603) (cond (Nat.beq n 5602) 59 0) (cond (Nat.beq n 5603) 60 0))) (cond (Nat.blt n 5605) (cond (Nat.beq n 5604) 61 0) (cond (Nat.blt n 6400) (cond (Nat.beq n 5605) 62 0) (cond (Nat.beq n 6400) 65 0)))) (cond (Nat.blt n 6413) (cond (Nat.blt n 6411) (cond (Nat.beq n 6410) 66 0) (cond (Nat.blt n 6412) (cond (Nat.beq n 6411) 67 0) (cond (Nat.beq n 6412) 68 0))) (cond (Nat.blt n 6415) (cond (Nat.blt n 6414) (cond (Nat.beq n 6413) 69 0) (cond (Nat.beq n 6414) 70 0)) (cond (Nat.blt n 6416) (cond (Nat.beq n 6415) 71 0) (cond (Nat.beq n 6416) 72 0))))) (cond (Nat.blt n 6434) (cond (Nat.blt n 6430) (cond (Nat.blt n 6428) (cond (Nat.beq n 6426) 73 0) (cond (Nat.blt n 6429) (cond (Nat.beq n 6428) 74 0) (cond (Nat.beq n 6429) 75 0))) (cond (Nat.blt n 6432) (cond (Nat.blt n 6431) (cond (Nat.beq n 6430) 76 0) (cond (Nat.beq n 6431) 77 0)) (cond (Nat.blt n 6433) (cond (Nat.beq n 6432) 78 0) (cond (Nat.beq n 6433) 79 0)))) (cond (Nat.blt n 6437) (cond (Nat.blt n 6435) (cond (Nat.beq n 6434) 80 0) (cond (Nat.blt n 6436) (cond (Nat.beq n 6435) 81 0) (cond (Nat.beq n 6436) 82 0))) (cond (Nat.blt n 6439) (cond (Nat.blt n 6438) (cond (Nat.beq n 6437) 83 0) (cond (Nat.beq n 6438) 84 0)) (cond (Nat.blt n 6440) (cond (Nat.beq n 6439) 85 0) (cond (Nat.beq n 6440) 86 0)))))) (cond (Nat.blt n 6466) (cond (Nat.blt n 6458) (cond (Nat.blt n 6444) (cond (Nat.blt n 6442) (cond (Nat.beq n 6441) 87 0) (cond (Nat.blt n 6443) (cond (Nat.beq n 6442) 88 0) (cond (Nat.beq n 6443) 89 0))) (cond (Nat.blt n 6445) (cond (Nat.beq n 6444) 90 0) (cond (Nat.blt n 6456) (cond (Nat.beq n 6445) 91 0) (cond (Nat.beq n 6456) 92 0)))) (cond (Nat.blt n 6461) (cond (Nat.blt n 6459) (cond (Nat.beq n 6458) 93 0) (cond (Nat.blt n 6460) (cond (Nat.beq n 6459) 94 0) (cond (Nat.beq n 6460) 95 0))) (cond (Nat.blt n 6464) (cond (Nat.blt n 6463) (cond (Nat.beq n 6461) 96 0) (cond (Nat.beq n 6463) 97 0)) (cond (Nat.blt n 6465) (cond (Nat.beq n 6464) 98 0) (cond (Nat.beq n 6465) 99 0))))) (cond (Nat.blt n 6475) (cond (Nat.blt n 6471) (cond (Nat.blt n 6467) (cond (Nat.beq n 6466) 100 0) (cond (Nat.blt n 6470) (cond (Nat.beq n 6467) 101 0) (cond (Nat.beq n 6470) 102 0))) (cond (Nat.blt n 6473) (cond (Nat.blt n 6472) (cond (Nat.beq n 6471) 103 0) (cond (Nat.beq n 6472) 104 0)) (cond (Nat.blt n 6474) (cond (Nat.beq n 6473) 105 0) (cond (Nat.beq n 6474) 106 0)))) (cond (Nat.blt n 6478) (cond (Nat.blt n 6476) (cond (Nat.beq n 6475) 107 0) (cond (Nat.blt n 6477) (cond (Nat.beq n 6476) 108 0) (cond (Nat.beq n 6477) 109 0))) (cond (Nat.blt n 6482) (cond (Nat.blt n 6481) (cond (Nat.beq n 6478) 110 0) (cond (Nat.beq n 6481) 111 0)) (cond (Nat.blt n 6483) (cond (Nat.beq n 6482) 112 0) (cond (Nat.beq n 6483) 113 0))))))))
def q_R0 (e : QP) (p k : Nat) : Nat := cond (Nat.beq p 1 && Nat.beq k 2) e.1 (cond (Nat.beq p 1 && Nat.beq k 3) e.2.1 (cond (Nat.beq p 31 && Nat.beq k 8) e.2.2.1 (cond (Nat.beq p 31 && Nat.beq k 1) e.2.2.2.1 (cond (Nat.blt k 100) (q_R1 (p * 100 + k)) 0))))
def qm (I : Nat → Nat → Int32) (J : Nat → Nat → Int64) (e : QP) : QM := (I, J, q_R0 e, q_S0 e, 113)
theorem q_R_now (e : QP) (v : Nat) : q_up (q_R0 e) 1 2 v = q_R0 (v, e.2) := by
  funext p k
  unfold q_up va_up q_R0
  cases h1 : Nat.beq p 1 with
  | true =>
    have hp := Nat.eq_of_beq_eq_true h1
    subst hp
    rw [if_pos rfl]
    cases h2 : Nat.beq k 2 with
    | true =>
      have hk := Nat.eq_of_beq_eq_true h2
      subst hk
      rw [if_pos rfl]; rfl
    | false =>
      rw [if_neg (Nat.ne_of_beq_eq_false h2)]
      rfl
  | false =>
    rw [if_neg (Nat.ne_of_beq_eq_false h1)]
    rfl
theorem q_R_spare (e : QP) (v : Nat) : q_up (q_R0 e) 1 3 v = q_R0 (e.1, v, e.2.2) := by
  funext p k
  unfold q_up va_up q_R0
  cases h1 : Nat.beq p 1 with
  | true =>
    have hp := Nat.eq_of_beq_eq_true h1
    subst hp
    rw [if_pos rfl]
    cases h2 : Nat.beq k 3 with
    | true =>
      have hk := Nat.eq_of_beq_eq_true h2
      subst hk
      rw [if_pos rfl]; rfl
    | false =>
      rw [if_neg (Nat.ne_of_beq_eq_false h2)]
      rfl
  | false =>
    rw [if_neg (Nat.ne_of_beq_eq_false h1)]
    rfl
theorem q_R_board (e : QP) (v : Nat) : q_up (q_R0 e) 31 8 v = q_R0 (e.1, e.2.1, v, e.2.2.2) := by
  funext p k
  unfold q_up va_up q_R0
  cases h1 : Nat.beq p 31 with
  | true =>
    have hp := Nat.eq_of_beq_eq_true h1
    subst hp
    rw [if_pos rfl]
    cases h2 : Nat.beq k 8 with
    | true =>
      have hk := Nat.eq_of_beq_eq_true h2
      subst hk
      rw [if_pos rfl]; rfl
    | false =>
      rw [if_neg (Nat.ne_of_beq_eq_false h2)]
      rfl
  | false =>
    rw [if_neg (Nat.ne_of_beq_eq_false h1)]
    rfl
theorem q_R_text (e : QP) (v : Nat) : q_up (q_R0 e) 31 1 v = q_R0 (e.1, e.2.1, e.2.2.1, v, e.2.2.2.2) := by
  funext p k
  unfold q_up va_up q_R0
  cases h1 : Nat.beq p 31 with
  | true =>
    have hp := Nat.eq_of_beq_eq_true h1
    subst hp
    rw [if_pos rfl]
    cases h2 : Nat.beq k 1 with
    | true =>
      have hk := Nat.eq_of_beq_eq_true h2
      subst hk
      rw [if_pos rfl]; rfl
    | false =>
      rw [if_neg (Nat.ne_of_beq_eq_false h2)]
      rfl
  | false =>
    rw [if_neg (Nat.ne_of_beq_eq_false h1)]
    rfl
def q_sl : List Value → List (Option Value)
  | [] => []
  | v :: r => if v.category = 2 then some v :: none :: q_sl r else some v :: q_sl r
def q_L0 (as : List Value) (n : Nat) : List (Option Value) := q_sl as ++ List.replicate (n - (q_sl as).length) none
def q_tx : List Int32 := [100, 101, 118, 105, 99, 101, 32, 105, 114, 32, 105, 100, 32, 99, 101, 108, 108, 115, 32, 110, 101, 116, 32, 102, 114, 111, 109, 32, 97, 110, 100, 32, 116, 111, 32, 115, 97, 102, 101, 32, 115, 104, 111, 114, 116, 32, 108, 111, 119, 32, 104, 105, 103, 104, 32, 111, 112, 101, 110, 32, 115, 116, 117, 99, 107, 32, 102, 108, 111, 97, 116, 115, 32, 110, 111, 105, 115, 101, 32, 100, 114, 97, 119, 32, 111, 114, 32, 110, 111, 116, 32, 99, 101, 108, 108, 32, 99, 108, 111, 99, 107, 32]
def q_ts : String := "device ir id cells net from and to safe short low high \x6fpen stuck floats noise draw or not cell clock "
def q_text4 (as : List Value) (M : QM) : Option QR := match as with
  | [.ref 1010] => q_ck (Nat.beq (q_kd M 1010) 40) (some (some (.int 102), M))
  | _ => none
def q_text5 (as : List Value) (M : QM) : Option QR := match as with
  | [.ref 1010, .int i] => q_ck (Nat.beq (q_kd M 1010) 40 && q_in i 102) (some (some (.int (q_tx.getD i.toNatClampNeg 0)), M))
  | _ => none
noncomputable def oX3_init : QO := fun y => fun _ _ => none
noncomputable def kX3_init (pc : Nat) (L : List (Option Value)) (st : List Value) (M : QM) : Option QR := q_D cs_X3_init oX3_init (0, 0) (true, pc, L, st, M, 0, 0)
noncomputable def mX3_init (as : List Value) (M : QM) : Option QR := cond (Nat.ble (q_sl as).length 1) (kX3_init 0 (q_L0 as 1) [] M) none
noncomputable def oX4_init : QO := fun y => fun _ _ => none
noncomputable def kX4_init (pc : Nat) (L : List (Option Value)) (st : List Value) (M : QM) (ce sl : Nat) : Option QR := q_D cs_X4_init oX4_init (2, 330) (true, pc, L, st, M, ce, sl)
noncomputable def mX4_init (as : List Value) (M : QM) : Option QR := cond (Nat.ble (q_sl as).length 1) (kX4_init 0 (q_L0 as 1) [] M 0 0) none
noncomputable def oX0_init : QO := fun y => cond (Nat.beq y 64) (mX3_init) (cond (Nat.beq y 76) (mX4_init) (fun _ _ => none))
noncomputable def kX0_init (pc : Nat) (L : List (Option Value)) (st : List Value) (M : QM) (ce sl : Nat) : Option QR := q_D cs_X0_init oX0_init (13, 403) (true, pc, L, st, M, ce, sl)
noncomputable def mX0_init (as : List Value) (M : QM) : Option QR := cond (Nat.ble (q_sl as).length 1) (kX0_init 0 (q_L0 as 1) [] M 0 0) none
noncomputable def oX3_mendAll : QO := fun y => fun _ _ => none
noncomputable def kX3_mendAll (pc : Nat) (L : List (Option Value)) (st : List Value) (M : QM) : Option QR := q_D cs_X3_mendAll oX3_mendAll (0, 0) (true, pc, L, st, M, 0, 0)
noncomputable def mX3_mendAll (as : List Value) (M : QM) : Option QR := cond (Nat.ble (q_sl as).length 1) (kX3_mendAll 0 (q_L0 as 1) [] M) none
noncomputable def oX4_clear : QO := fun y => fun _ _ => none
noncomputable def kX4_clear (pc : Nat) (L : List (Option Value)) (st : List Value) (M : QM) : Option QR := q_D cs_X4_clear oX4_clear (0, 0) (true, pc, L, st, M, 0, 0)
noncomputable def mX4_clear (as : List Value) (M : QM) : Option QR := cond (Nat.ble (q_sl as).length 1) (kX4_clear 0 (q_L0 as 1) [] M) none
noncomputable def oJ7_fill_53178 : QO := fun y => fun _ _ => none
noncomputable def kJ7_fill_53178 (pc : Nat) (L : List (Option Value)) (st : List Value) (M : QM) : Option QR := q_D cs_J7_fill_53178 oJ7_fill_53178 (0, 0) (true, pc, L, st, M, 0, 0)
noncomputable def mJ7_fill_53178 (as : List Value) (M : QM) : Option QR := cond (Nat.ble (q_sl as).length 4) (kJ7_fill_53178 0 (q_L0 as 4) [] M) none
noncomputable def oX0_clear : QO := fun y => cond (Nat.beq y 65) (mX3_mendAll) (cond (Nat.beq y 77) (mX4_clear) (cond (Nat.beq y 391) (mJ7_fill_53178) (fun _ _ => none)))
noncomputable def kX0_clear (pc : Nat) (L : List (Option Value)) (st : List Value) (M : QM) : Option QR := q_D cs_X0_clear oX0_clear (0, 0) (true, pc, L, st, M, 0, 0)
noncomputable def mX0_clear (as : List Value) (M : QM) : Option QR := cond (Nat.ble (q_sl as).length 1) (kX0_clear 0 (q_L0 as 1) [] M) none
noncomputable def oX0_hasDevice : QO := fun y => fun _ _ => none
noncomputable def kX0_hasDevice (pc : Nat) (L : List (Option Value)) (st : List Value) (M : QM) : Option QR := q_D cs_X0_hasDevice oX0_hasDevice (0, 0) (true, pc, L, st, M, 0, 0)
noncomputable def mX0_hasDevice (as : List Value) (M : QM) : Option QR := cond (Nat.ble (q_sl as).length 2) (kX0_hasDevice 0 (q_L0 as 2) [] M) none
noncomputable def oX0_hasNet : QO := fun y => fun _ _ => none
noncomputable def kX0_hasNet (pc : Nat) (L : List (Option Value)) (st : List Value) (M : QM) : Option QR := q_D cs_X0_hasNet oX0_hasNet (0, 0) (true, pc, L, st, M, 0, 0)
noncomputable def mX0_hasNet (as : List Value) (M : QM) : Option QR := cond (Nat.ble (q_sl as).length 2) (kX0_hasNet 0 (q_L0 as 2) [] M) none
noncomputable def oX0_hasCell : QO := fun y => cond (Nat.beq y 12) (mX0_hasDevice) (fun _ _ => none)
noncomputable def kX0_hasCell (pc : Nat) (L : List (Option Value)) (st : List Value) (M : QM) : Option QR := q_D cs_X0_hasCell oX0_hasCell (0, 0) (true, pc, L, st, M, 0, 0)
noncomputable def mX0_hasCell (as : List Value) (M : QM) : Option QR := cond (Nat.ble (q_sl as).length 3) (kX0_hasCell 0 (q_L0 as 3) [] M) none
noncomputable def oX0_isReceiver : QO := fun y => fun _ _ => none
noncomputable def kX0_isReceiver (pc : Nat) (L : List (Option Value)) (st : List Value) (M : QM) : Option QR := q_D cs_X0_isReceiver oX0_isReceiver (0, 0) (true, pc, L, st, M, 0, 0)
noncomputable def mX0_isReceiver (as : List Value) (M : QM) : Option QR := cond (Nat.ble (q_sl as).length 2) (kX0_isReceiver 0 (q_L0 as 2) [] M) none
noncomputable def oX11_placeOf : QO := fun y => fun _ _ => none
noncomputable def kX11_placeOf (pc : Nat) (L : List (Option Value)) (st : List Value) (M : QM) : Option QR := q_D cs_X11_placeOf oX11_placeOf (0, 0) (true, pc, L, st, M, 0, 0)
noncomputable def mX11_placeOf (as : List Value) (M : QM) : Option QR := cond (Nat.ble (q_sl as).length 2) (kX11_placeOf 0 (q_L0 as 2) [] M) none
noncomputable def oX0_hasReceiver : QO := fun y => cond (Nat.beq y 14) (mX0_hasCell) (cond (Nat.beq y 16) (mX0_isReceiver) (cond (Nat.beq y 178) (mX11_placeOf) (fun _ _ => none)))
noncomputable def kX0_hasReceiver (pc : Nat) (L : List (Option Value)) (st : List Value) (M : QM) : Option QR := q_D cs_X0_hasReceiver oX0_hasReceiver (0, 0) (true, pc, L, st, M, 0, 0)
noncomputable def mX0_hasReceiver (as : List Value) (M : QM) : Option QR := cond (Nat.ble (q_sl as).length 3) (kX0_hasReceiver 0 (q_L0 as 3) [] M) none
noncomputable def oX0_keptSafe : QO := fun y => fun _ _ => none
noncomputable def kX0_keptSafe (pc : Nat) (L : List (Option Value)) (st : List Value) (M : QM) : Option QR := q_D cs_X0_keptSafe oX0_keptSafe (0, 0) (true, pc, L, st, M, 0, 0)
noncomputable def mX0_keptSafe (as : List Value) (M : QM) : Option QR := cond (Nat.ble (q_sl as).length 4) (kX0_keptSafe 0 (q_L0 as 4) [] M) none
noncomputable def oX0_unsafeAt : QO := fun y => cond (Nat.beq y 17) (mX0_keptSafe) (fun _ _ => none)
noncomputable def kX0_unsafeAt (pc : Nat) (L : List (Option Value)) (st : List Value) (M : QM) : Option QR := q_D cs_X0_unsafeAt oX0_unsafeAt (0, 0) (true, pc, L, st, M, 0, 0)
noncomputable def mX0_unsafeAt (as : List Value) (M : QM) : Option QR := cond (Nat.ble (q_sl as).length 2) (kX0_unsafeAt 0 (q_L0 as 2) [] M) none
noncomputable def oX0_readsAt : QO := fun y => fun _ _ => none
noncomputable def kX0_readsAt (pc : Nat) (L : List (Option Value)) (st : List Value) (M : QM) : Option QR := q_D cs_X0_readsAt oX0_readsAt (0, 0) (true, pc, L, st, M, 0, 0)
noncomputable def mX0_readsAt (as : List Value) (M : QM) : Option QR := cond (Nat.ble (q_sl as).length 6) (kX0_readsAt 0 (q_L0 as 6) [] M) none
noncomputable def oX0_receiversAt : QO := fun y => cond (Nat.beq y 19) (mX0_readsAt) (fun _ _ => none)
noncomputable def kX0_receiversAt (pc : Nat) (L : List (Option Value)) (st : List Value) (M : QM) : Option QR := q_D cs_X0_receiversAt oX0_receiversAt (0, 0) (true, pc, L, st, M, 0, 0)
noncomputable def mX0_receiversAt (as : List Value) (M : QM) : Option QR := cond (Nat.ble (q_sl as).length 2) (kX0_receiversAt 0 (q_L0 as 2) [] M) none
noncomputable def oX4_named : QO := fun y => fun _ _ => none
noncomputable def kX4_named (pc : Nat) (L : List (Option Value)) (st : List Value) (M : QM) : Option QR := q_D cs_X4_named oX4_named (0, 0) (true, pc, L, st, M, 0, 0)
noncomputable def mX4_named (as : List Value) (M : QM) : Option QR := cond (Nat.ble (q_sl as).length 4) (kX4_named 0 (q_L0 as 4) [] M) none
noncomputable def oX4_joined : QO := fun y => fun _ _ => none
noncomputable def kX4_joined (pc : Nat) (L : List (Option Value)) (st : List Value) (M : QM) : Option QR := q_D cs_X4_joined oX4_joined (0, 0) (true, pc, L, st, M, 0, 0)
noncomputable def mX4_joined (as : List Value) (M : QM) : Option QR := cond (Nat.ble (q_sl as).length 3) (kX4_joined 0 (q_L0 as 3) [] M) none
noncomputable def oX4_value : QO := fun y => cond (Nat.beq y 80) (mX4_named) (cond (Nat.beq y 81) (mX4_joined) (fun _ _ => none))
noncomputable def kX4_value (pc : Nat) (L : List (Option Value)) (st : List Value) (M : QM) : Option QR := q_D cs_X4_value oX4_value (0, 0) (true, pc, L, st, M, 0, 0)
noncomputable def mX4_value (as : List Value) (M : QM) : Option QR := cond (Nat.ble (q_sl as).length 7) (kX4_value 0 (q_L0 as 7) [] M) none
noncomputable def oX0_floatingAt : QO := fun y => cond (Nat.beq y 79) (mX4_value) (fun _ _ => none)
noncomputable def kX0_floatingAt (pc : Nat) (L : List (Option Value)) (st : List Value) (M : QM) : Option QR := q_D cs_X0_floatingAt oX0_floatingAt (0, 0) (true, pc, L, st, M, 0, 0)
noncomputable def mX0_floatingAt (as : List Value) (M : QM) : Option QR := cond (Nat.ble (q_sl as).length 5) (kX0_floatingAt 0 (q_L0 as 5) [] M) none
noncomputable def oX0_firstOpen : QO := fun y => fun _ _ => none
noncomputable def kX0_firstOpen (pc : Nat) (L : List (Option Value)) (st : List Value) (M : QM) : Option QR := q_D cs_X0_firstOpen oX0_firstOpen (0, 0) (true, pc, L, st, M, 0, 0)
noncomputable def mX0_firstOpen (as : List Value) (M : QM) : Option QR := cond (Nat.ble (q_sl as).length 1) (kX0_firstOpen 0 (q_L0 as 1) [] M) none
noncomputable def oJ6_bitCount_0f7a4 : QO := fun y => fun _ _ => none
noncomputable def kJ6_bitCount_0f7a4 (pc : Nat) (L : List (Option Value)) (st : List Value) (M : QM) : Option QR := q_D cs_J6_bitCount_0f7a4 oJ6_bitCount_0f7a4 (0, 0) (true, pc, L, st, M, 0, 0)
noncomputable def mJ6_bitCount_0f7a4 (as : List Value) (M : QM) : Option QR := cond (Nat.ble (q_sl as).length 1) (kJ6_bitCount_0f7a4 0 (q_L0 as 1) [] M) none
noncomputable def oX0_firstShort : QO := fun y => cond (Nat.beq y 23) (mX0_firstOpen) (cond (Nat.beq y 389) (mJ6_bitCount_0f7a4) (fun _ _ => none))
noncomputable def kX0_firstShort (pc : Nat) (L : List (Option Value)) (st : List Value) (M : QM) : Option QR := q_D cs_X0_firstShort oX0_firstShort (0, 0) (true, pc, L, st, M, 0, 0)
noncomputable def mX0_firstShort (as : List Value) (M : QM) : Option QR := cond (Nat.ble (q_sl as).length 1) (kX0_firstShort 0 (q_L0 as 1) [] M) none
noncomputable def oX0_singleCount : QO := fun y => cond (Nat.beq y 24) (mX0_firstShort) (fun _ _ => none)
noncomputable def kX0_singleCount (pc : Nat) (L : List (Option Value)) (st : List Value) (M : QM) : Option QR := q_D cs_X0_singleCount oX0_singleCount (0, 0) (true, pc, L, st, M, 0, 0)
noncomputable def mX0_singleCount (as : List Value) (M : QM) : Option QR := cond (Nat.ble (q_sl as).length 1) (kX0_singleCount 0 (q_L0 as 1) [] M) none
noncomputable def oX0_hasSingle : QO := fun y => cond (Nat.beq y 22) (mX0_singleCount) (fun _ _ => none)
noncomputable def kX0_hasSingle (pc : Nat) (L : List (Option Value)) (st : List Value) (M : QM) : Option QR := q_D cs_X0_hasSingle oX0_hasSingle (0, 0) (true, pc, L, st, M, 0, 0)
noncomputable def mX0_hasSingle (as : List Value) (M : QM) : Option QR := cond (Nat.ble (q_sl as).length 2) (kX0_hasSingle 0 (q_L0 as 2) [] M) none
noncomputable def oX0_sortOf : QO := fun y => cond (Nat.beq y 23) (mX0_firstOpen) (cond (Nat.beq y 24) (mX0_firstShort) (fun _ _ => none))
noncomputable def kX0_sortOf (pc : Nat) (L : List (Option Value)) (st : List Value) (M : QM) : Option QR := q_D cs_X0_sortOf oX0_sortOf (0, 0) (true, pc, L, st, M, 0, 0)
noncomputable def mX0_sortOf (as : List Value) (M : QM) : Option QR := cond (Nat.ble (q_sl as).length 2) (kX0_sortOf 0 (q_L0 as 2) [] M) none
noncomputable def oX0_isHigh : QO := fun y => cond (Nat.beq y 24) (mX0_firstShort) (cond (Nat.beq y 26) (mX0_sortOf) (fun _ _ => none))
noncomputable def kX0_isHigh (pc : Nat) (L : List (Option Value)) (st : List Value) (M : QM) : Option QR := q_D cs_X0_isHigh oX0_isHigh (0, 0) (true, pc, L, st, M, 0, 0)
noncomputable def mX0_isHigh (as : List Value) (M : QM) : Option QR := cond (Nat.ble (q_sl as).length 3) (kX0_isHigh 0 (q_L0 as 3) [] M) none
noncomputable def oX0_placeOfOpen : QO := fun y => cond (Nat.beq y 16) (mX0_isReceiver) (cond (Nat.beq y 23) (mX0_firstOpen) (fun _ _ => none))
noncomputable def kX0_placeOfOpen (pc : Nat) (L : List (Option Value)) (st : List Value) (M : QM) : Option QR := q_D cs_X0_placeOfOpen oX0_placeOfOpen (0, 0) (true, pc, L, st, M, 0, 0)
noncomputable def mX0_placeOfOpen (as : List Value) (M : QM) : Option QR := cond (Nat.ble (q_sl as).length 4) (kX0_placeOfOpen 0 (q_L0 as 4) [] M) none
noncomputable def oX0_pairOfShort : QO := fun y => cond (Nat.beq y 24) (mX0_firstShort) (fun _ _ => none)
noncomputable def kX0_pairOfShort (pc : Nat) (L : List (Option Value)) (st : List Value) (M : QM) : Option QR := q_D cs_X0_pairOfShort oX0_pairOfShort (0, 0) (true, pc, L, st, M, 0, 0)
noncomputable def mX0_pairOfShort (as : List Value) (M : QM) : Option QR := cond (Nat.ble (q_sl as).length 4) (kX0_pairOfShort 0 (q_L0 as 4) [] M) none
noncomputable def oX0_targetOf : QO := fun y => cond (Nat.beq y 26) (mX0_sortOf) (cond (Nat.beq y 28) (mX0_placeOfOpen) (cond (Nat.beq y 29) (mX0_pairOfShort) (fun _ _ => none)))
noncomputable def kX0_targetOf (pc : Nat) (L : List (Option Value)) (st : List Value) (M : QM) : Option QR := q_D cs_X0_targetOf oX0_targetOf (0, 0) (true, pc, L, st, M, 0, 0)
noncomputable def mX0_targetOf (as : List Value) (M : QM) : Option QR := cond (Nat.ble (q_sl as).length 3) (kX0_targetOf 0 (q_L0 as 3) [] M) none
noncomputable def oX0_firstOf : QO := fun y => cond (Nat.beq y 26) (mX0_sortOf) (cond (Nat.beq y 30) (mX0_targetOf) (fun _ _ => none))
noncomputable def kX0_firstOf (pc : Nat) (L : List (Option Value)) (st : List Value) (M : QM) : Option QR := q_D cs_X0_firstOf oX0_firstOf (0, 0) (true, pc, L, st, M, 0, 0)
noncomputable def mX0_firstOf (as : List Value) (M : QM) : Option QR := cond (Nat.ble (q_sl as).length 4) (kX0_firstOf 0 (q_L0 as 4) [] M) none
noncomputable def oX0_secondOf : QO := fun y => cond (Nat.beq y 26) (mX0_sortOf) (cond (Nat.beq y 30) (mX0_targetOf) (fun _ _ => none))
noncomputable def kX0_secondOf (pc : Nat) (L : List (Option Value)) (st : List Value) (M : QM) : Option QR := q_D cs_X0_secondOf oX0_secondOf (0, 0) (true, pc, L, st, M, 0, 0)
noncomputable def mX0_secondOf (as : List Value) (M : QM) : Option QR := cond (Nat.ble (q_sl as).length 4) (kX0_secondOf 0 (q_L0 as 4) [] M) none
noncomputable def oX0_isThere : QO := fun y => cond (Nat.beq y 26) (mX0_sortOf) (cond (Nat.beq y 27) (mX0_isHigh) (cond (Nat.beq y 30) (mX0_targetOf) (fun _ _ => none)))
noncomputable def kX0_isThere (pc : Nat) (L : List (Option Value)) (st : List Value) (M : QM) : Option QR := q_D cs_X0_isThere oX0_isThere (0, 0) (true, pc, L, st, M, 0, 0)
noncomputable def mX0_isThere (as : List Value) (M : QM) : Option QR := cond (Nat.ble (q_sl as).length 5) (kX0_isThere 0 (q_L0 as 5) [] M) none
noncomputable def oX0_isBarred : QO := fun y => cond (Nat.beq y 26) (mX0_sortOf) (cond (Nat.beq y 30) (mX0_targetOf) (cond (Nat.beq y 33) (mX0_isThere) (fun _ _ => none)))
noncomputable def kX0_isBarred (pc : Nat) (L : List (Option Value)) (st : List Value) (M : QM) : Option QR := q_D cs_X0_isBarred oX0_isBarred (0, 0) (true, pc, L, st, M, 0, 0)
noncomputable def mX0_isBarred (as : List Value) (M : QM) : Option QR := cond (Nat.ble (q_sl as).length 5) (kX0_isBarred 0 (q_L0 as 5) [] M) none
noncomputable def oX0_turnSingle : QO := fun y => cond (Nat.beq y 26) (mX0_sortOf) (cond (Nat.beq y 27) (mX0_isHigh) (cond (Nat.beq y 30) (mX0_targetOf) (fun _ _ => none)))
noncomputable def kX0_turnSingle (pc : Nat) (L : List (Option Value)) (st : List Value) (M : QM) : Option QR := q_D cs_X0_turnSingle oX0_turnSingle (0, 0) (true, pc, L, st, M, 0, 0)
noncomputable def mX0_turnSingle (as : List Value) (M : QM) : Option QR := cond (Nat.ble (q_sl as).length 5) (kX0_turnSingle 0 (q_L0 as 5) [] M) none
noncomputable def oX1_init : QO := fun y => cond (Nat.beq y 64) (mX3_init) (fun _ _ => none)
noncomputable def kX1_init (pc : Nat) (L : List (Option Value)) (st : List Value) (M : QM) (ce sl : Nat) : Option QR := q_D cs_X1_init oX1_init (6, 37) (true, pc, L, st, M, ce, sl)
noncomputable def mX1_init (as : List Value) (M : QM) : Option QR := cond (Nat.ble (q_sl as).length 1) (kX1_init 0 (q_L0 as 1) [] M 0 0) none
noncomputable def oX1_restingOrder : QO := fun y => fun _ _ => none
noncomputable def kX1_restingOrder (pc : Nat) (L : List (Option Value)) (st : List Value) (M : QM) : Option QR := q_D cs_X1_restingOrder oX1_restingOrder (0, 0) (true, pc, L, st, M, 0, 0)
noncomputable def mX1_restingOrder (as : List Value) (M : QM) : Option QR := cond (Nat.ble (q_sl as).length 2) (kX1_restingOrder 0 (q_L0 as 2) [] M) none
noncomputable def oX3_takeOver : QO := fun y => fun _ _ => none
noncomputable def kX3_takeOver (pc : Nat) (L : List (Option Value)) (st : List Value) (M : QM) : Option QR := q_D cs_X3_takeOver oX3_takeOver (0, 0) (true, pc, L, st, M, 0, 0)
noncomputable def mX3_takeOver (as : List Value) (M : QM) : Option QR := cond (Nat.ble (q_sl as).length 2) (kX3_takeOver 0 (q_L0 as 2) [] M) none
noncomputable def oX1_begin : QO := fun y => cond (Nat.beq y 38) (mX1_restingOrder) (cond (Nat.beq y 66) (mX3_takeOver) (cond (Nat.beq y 391) (mJ7_fill_53178) (fun _ _ => none)))
noncomputable def kX1_begin (pc : Nat) (L : List (Option Value)) (st : List Value) (M : QM) : Option QR := q_D cs_X1_begin oX1_begin (0, 0) (true, pc, L, st, M, 0, 0)
noncomputable def mX1_begin (as : List Value) (M : QM) : Option QR := cond (Nat.ble (q_sl as).length 3) (kX1_begin 0 (q_L0 as 3) [] M) none
noncomputable def oX1_hasCellsAsData : QO := fun y => fun _ _ => none
noncomputable def kX1_hasCellsAsData (pc : Nat) (L : List (Option Value)) (st : List Value) (M : QM) : Option QR := q_D cs_X1_hasCellsAsData oX1_hasCellsAsData (0, 0) (true, pc, L, st, M, 0, 0)
noncomputable def mX1_hasCellsAsData (as : List Value) (M : QM) : Option QR := cond (Nat.ble (q_sl as).length 2) (kX1_hasCellsAsData 0 (q_L0 as 2) [] M) none
noncomputable def oX1_tellsWho : QO := fun y => fun _ _ => none
noncomputable def kX1_tellsWho (pc : Nat) (L : List (Option Value)) (st : List Value) (M : QM) : Option QR := q_D cs_X1_tellsWho oX1_tellsWho (0, 0) (true, pc, L, st, M, 0, 0)
noncomputable def mX1_tellsWho (as : List Value) (M : QM) : Option QR := cond (Nat.ble (q_sl as).length 3) (kX1_tellsWho 0 (q_L0 as 3) [] M) none
noncomputable def oX1_dataBits : QO := fun y => cond (Nat.beq y 39) (mX1_hasCellsAsData) (cond (Nat.beq y 40) (mX1_tellsWho) (fun _ _ => none))
noncomputable def kX1_dataBits (pc : Nat) (L : List (Option Value)) (st : List Value) (M : QM) : Option QR := q_D cs_X1_dataBits oX1_dataBits (0, 0) (true, pc, L, st, M, 0, 0)
noncomputable def mX1_dataBits (as : List Value) (M : QM) : Option QR := cond (Nat.ble (q_sl as).length 3) (kX1_dataBits 0 (q_L0 as 3) [] M) none
noncomputable def oX1_driversUp : QO := fun y => cond (Nat.beq y 178) (mX11_placeOf) (fun _ _ => none)
noncomputable def kX1_driversUp (pc : Nat) (L : List (Option Value)) (st : List Value) (M : QM) : Option QR := q_D cs_X1_driversUp oX1_driversUp (0, 0) (true, pc, L, st, M, 0, 0)
noncomputable def mX1_driversUp (as : List Value) (M : QM) : Option QR := cond (Nat.ble (q_sl as).length 5) (kX1_driversUp 0 (q_L0 as 5) [] M) none
noncomputable def oX1_driven : QO := fun y => cond (Nat.beq y 42) (mX1_driversUp) (fun _ _ => none)
noncomputable def kX1_driven (pc : Nat) (L : List (Option Value)) (st : List Value) (M : QM) : Option QR := q_D cs_X1_driven oX1_driven (0, 0) (true, pc, L, st, M, 0, 0)
noncomputable def mX1_driven (as : List Value) (M : QM) : Option QR := cond (Nat.ble (q_sl as).length 5) (kX1_driven 0 (q_L0 as 5) [] M) none
noncomputable def oX1_fighting : QO := fun y => cond (Nat.beq y 42) (mX1_driversUp) (fun _ _ => none)
noncomputable def kX1_fighting (pc : Nat) (L : List (Option Value)) (st : List Value) (M : QM) : Option QR := q_D cs_X1_fighting oX1_fighting (0, 0) (true, pc, L, st, M, 0, 0)
noncomputable def mX1_fighting (as : List Value) (M : QM) : Option QR := cond (Nat.ble (q_sl as).length 5) (kX1_fighting 0 (q_L0 as 5) [] M) none
noncomputable def oX1_floating : QO := fun y => cond (Nat.beq y 21) (mX0_floatingAt) (fun _ _ => none)
noncomputable def kX1_floating (pc : Nat) (L : List (Option Value)) (st : List Value) (M : QM) : Option QR := q_D cs_X1_floating oX1_floating (0, 0) (true, pc, L, st, M, 0, 0)
noncomputable def mX1_floating (as : List Value) (M : QM) : Option QR := cond (Nat.ble (q_sl as).length 2) (kX1_floating 0 (q_L0 as 2) [] M) none
noncomputable def oX3_netsOf : QO := fun y => fun _ _ => none
noncomputable def kX3_netsOf (pc : Nat) (L : List (Option Value)) (st : List Value) (M : QM) : Option QR := q_D cs_X3_netsOf oX3_netsOf (0, 0) (true, pc, L, st, M, 0, 0)
noncomputable def mX3_netsOf (as : List Value) (M : QM) : Option QR := cond (Nat.ble (q_sl as).length 1) (kX3_netsOf 0 (q_L0 as 1) [] M) none
noncomputable def oX3_hanging : QO := fun y => cond (Nat.beq y 69) (mX3_netsOf) (fun _ _ => none)
noncomputable def kX3_hanging (pc : Nat) (L : List (Option Value)) (st : List Value) (M : QM) : Option QR := q_D cs_X3_hanging oX3_hanging (0, 0) (true, pc, L, st, M, 0, 0)
noncomputable def mX3_hanging (as : List Value) (M : QM) : Option QR := cond (Nat.ble (q_sl as).length 7) (kX3_hanging 0 (q_L0 as 7) [] M) none
noncomputable def oX3_pullsLow : QO := fun y => cond (Nat.beq y 69) (mX3_netsOf) (fun _ _ => none)
noncomputable def kX3_pullsLow (pc : Nat) (L : List (Option Value)) (st : List Value) (M : QM) : Option QR := q_D cs_X3_pullsLow oX3_pullsLow (0, 0) (true, pc, L, st, M, 0, 0)
noncomputable def mX3_pullsLow (as : List Value) (M : QM) : Option QR := cond (Nat.ble (q_sl as).length 3) (kX3_pullsLow 0 (q_L0 as 3) [] M) none
noncomputable def oX3_drives : QO := fun y => fun _ _ => none
noncomputable def kX3_drives (pc : Nat) (L : List (Option Value)) (st : List Value) (M : QM) : Option QR := q_D cs_X3_drives oX3_drives (0, 0) (true, pc, L, st, M, 0, 0)
noncomputable def mX3_drives (as : List Value) (M : QM) : Option QR := cond (Nat.ble (q_sl as).length 2) (kX3_drives 0 (q_L0 as 2) [] M) none
noncomputable def oX3_levels : QO := fun y => cond (Nat.beq y 70) (mX3_hanging) (cond (Nat.beq y 71) (mX3_pullsLow) (cond (Nat.beq y 72) (mX3_drives) (fun _ _ => none)))
noncomputable def kX3_levels (pc : Nat) (L : List (Option Value)) (st : List Value) (M : QM) : Option QR := q_D cs_X3_levels oX3_levels (0, 0) (true, pc, L, st, M, 0, 0)
noncomputable def mX3_levels (as : List Value) (M : QM) : Option QR := cond (Nat.ble (q_sl as).length 8) (kX3_levels 0 (q_L0 as 8) [] M) none
noncomputable def oX1_reads : QO := fun y => cond (Nat.beq y 19) (mX0_readsAt) (cond (Nat.beq y 21) (mX0_floatingAt) (cond (Nat.beq y 43) (mX1_driven) (cond (Nat.beq y 73) (mX3_levels) (fun _ _ => none))))
noncomputable def kX1_reads (pc : Nat) (L : List (Option Value)) (st : List Value) (M : QM) : Option QR := q_D cs_X1_reads oX1_reads (0, 0) (true, pc, L, st, M, 0, 0)
noncomputable def mX1_reads (as : List Value) (M : QM) : Option QR := cond (Nat.ble (q_sl as).length 2) (kX1_reads 0 (q_L0 as 2) [] M) none
noncomputable def oX1_setOrder : QO := fun y => fun _ _ => none
noncomputable def kX1_setOrder (pc : Nat) (L : List (Option Value)) (st : List Value) (M : QM) : Option QR := q_D cs_X1_setOrder oX1_setOrder (0, 0) (true, pc, L, st, M, 0, 0)
noncomputable def mX1_setOrder (as : List Value) (M : QM) : Option QR := cond (Nat.ble (q_sl as).length 3) (kX1_setOrder 0 (q_L0 as 3) [] M) none
noncomputable def oX1_rest : QO := fun y => cond (Nat.beq y 38) (mX1_restingOrder) (cond (Nat.beq y 49) (mX1_setOrder) (fun _ _ => none))
noncomputable def kX1_rest (pc : Nat) (L : List (Option Value)) (st : List Value) (M : QM) : Option QR := q_D cs_X1_rest oX1_rest (0, 0) (true, pc, L, st, M, 0, 0)
noncomputable def mX1_rest (as : List Value) (M : QM) : Option QR := cond (Nat.ble (q_sl as).length 3) (kX1_rest 0 (q_L0 as 3) [] M) none
noncomputable def oX1_capture : QO := fun y => cond (Nat.beq y 39) (mX1_hasCellsAsData) (cond (Nat.beq y 40) (mX1_tellsWho) (cond (Nat.beq y 41) (mX1_dataBits) (cond (Nat.beq y 46) (mX1_reads) (cond (Nat.beq y 178) (mX11_placeOf) (fun _ _ => none)))))
noncomputable def kX1_capture (pc : Nat) (L : List (Option Value)) (st : List Value) (M : QM) : Option QR := q_D cs_X1_capture oX1_capture (0, 0) (true, pc, L, st, M, 0, 0)
noncomputable def mX1_capture (as : List Value) (M : QM) : Option QR := cond (Nat.ble (q_sl as).length 4) (kX1_capture 0 (q_L0 as 4) [] M) none
noncomputable def oX1_captureOrders : QO := fun y => fun _ _ => none
noncomputable def kX1_captureOrders (pc : Nat) (L : List (Option Value)) (st : List Value) (M : QM) : Option QR := q_D cs_X1_captureOrders oX1_captureOrders (0, 0) (true, pc, L, st, M, 0, 0)
noncomputable def mX1_captureOrders (as : List Value) (M : QM) : Option QR := cond (Nat.ble (q_sl as).length 3) (kX1_captureOrders 0 (q_L0 as 3) [] M) none
noncomputable def oX1_shiftData : QO := fun y => cond (Nat.beq y 41) (mX1_dataBits) (fun _ _ => none)
noncomputable def kX1_shiftData (pc : Nat) (L : List (Option Value)) (st : List Value) (M : QM) : Option QR := q_D cs_X1_shiftData oX1_shiftData (0, 0) (true, pc, L, st, M, 0, 0)
noncomputable def mX1_shiftData (as : List Value) (M : QM) : Option QR := cond (Nat.ble (q_sl as).length 7) (kX1_shiftData 0 (q_L0 as 7) [] M) none
noncomputable def oX1_shiftOrders : QO := fun y => fun _ _ => none
noncomputable def kX1_shiftOrders (pc : Nat) (L : List (Option Value)) (st : List Value) (M : QM) : Option QR := q_D cs_X1_shiftOrders oX1_shiftOrders (0, 0) (true, pc, L, st, M, 0, 0)
noncomputable def mX1_shiftOrders (as : List Value) (M : QM) : Option QR := cond (Nat.ble (q_sl as).length 6) (kX1_shiftOrders 0 (q_L0 as 6) [] M) none
noncomputable def oX1_giveData : QO := fun y => fun _ _ => none
noncomputable def kX1_giveData (pc : Nat) (L : List (Option Value)) (st : List Value) (M : QM) : Option QR := q_D cs_X1_giveData oX1_giveData (0, 0) (true, pc, L, st, M, 0, 0)
noncomputable def mX1_giveData (as : List Value) (M : QM) : Option QR := cond (Nat.ble (q_sl as).length 3) (kX1_giveData 0 (q_L0 as 3) [] M) none
noncomputable def oX1_giveOrders : QO := fun y => cond (Nat.beq y 49) (mX1_setOrder) (fun _ _ => none)
noncomputable def kX1_giveOrders (pc : Nat) (L : List (Option Value)) (st : List Value) (M : QM) : Option QR := q_D cs_X1_giveOrders oX1_giveOrders (0, 0) (true, pc, L, st, M, 0, 0)
noncomputable def mX1_giveOrders (as : List Value) (M : QM) : Option QR := cond (Nat.ble (q_sl as).length 3) (kX1_giveOrders 0 (q_L0 as 3) [] M) none
noncomputable def oX10_next : QO := fun y => fun _ _ => none
noncomputable def kX10_next (pc : Nat) (L : List (Option Value)) (st : List Value) (M : QM) : Option QR := q_D cs_X10_next oX10_next (0, 0) (true, pc, L, st, M, 0, 0)
noncomputable def mX10_next (as : List Value) (M : QM) : Option QR := cond (Nat.ble (q_sl as).length 2) (kX10_next 0 (q_L0 as 2) [] M) none
noncomputable def oX1_tick : QO := fun y => cond (Nat.beq y 48) (mX1_rest) (cond (Nat.beq y 50) (mX1_capture) (cond (Nat.beq y 51) (mX1_captureOrders) (cond (Nat.beq y 52) (mX1_shiftData) (cond (Nat.beq y 53) (mX1_shiftOrders) (cond (Nat.beq y 54) (mX1_giveData) (cond (Nat.beq y 55) (mX1_giveOrders) (cond (Nat.beq y 163) (mX10_next) (fun _ _ => none))))))))
noncomputable def kX1_tick (pc : Nat) (L : List (Option Value)) (st : List Value) (M : QM) : Option QR := q_D cs_X1_tick oX1_tick (0, 0) (true, pc, L, st, M, 0, 0)
noncomputable def mX1_tick (as : List Value) (M : QM) : Option QR := cond (Nat.ble (q_sl as).length 5) (kX1_tick 0 (q_L0 as 5) [] M) none
noncomputable def oX10_measure : QO := fun y => cond (Nat.beq y 391) (mJ7_fill_53178) (fun _ _ => none)
noncomputable def kX10_measure (pc : Nat) (L : List (Option Value)) (st : List Value) (M : QM) : Option QR := q_D cs_X10_measure oX10_measure (0, 0) (true, pc, L, st, M, 0, 0)
noncomputable def mX10_measure (as : List Value) (M : QM) : Option QR := cond (Nat.ble (q_sl as).length 8) (kX10_measure 0 (q_L0 as 8) [] M) none
noncomputable def oX10_lead : QO := fun y => cond (Nat.beq y 163) (mX10_next) (cond (Nat.beq y 164) (mX10_measure) (fun _ _ => none))
noncomputable def kX10_lead (pc : Nat) (L : List (Option Value)) (st : List Value) (M : QM) : Option QR := q_D cs_X10_lead oX10_lead (0, 0) (true, pc, L, st, M, 0, 0)
noncomputable def mX10_lead (as : List Value) (M : QM) : Option QR := cond (Nat.ble (q_sl as).length 8) (kX10_lead 0 (q_L0 as 8) [] M) none
noncomputable def oX1_sweep : QO := fun y => cond (Nat.beq y 47) (mX1_tick) (cond (Nat.beq y 165) (mX10_lead) (fun _ _ => none))
noncomputable def kX1_sweep (pc : Nat) (L : List (Option Value)) (st : List Value) (M : QM) : Option QR := q_D cs_X1_sweep oX1_sweep (0, 0) (true, pc, L, st, M, 0, 0)
noncomputable def mX1_sweep (as : List Value) (M : QM) : Option QR := cond (Nat.ble (q_sl as).length 10) (kX1_sweep 0 (q_L0 as 10) [] M) none
noncomputable def oX3_save : QO := fun y => fun _ _ => none
noncomputable def kX3_save (pc : Nat) (L : List (Option Value)) (st : List Value) (M : QM) : Option QR := q_D cs_X3_save oX3_save (0, 0) (true, pc, L, st, M, 0, 0)
noncomputable def mX3_save (as : List Value) (M : QM) : Option QR := cond (Nat.ble (q_sl as).length 3) (kX3_save 0 (q_L0 as 3) [] M) none
noncomputable def oX1_save : QO := fun y => cond (Nat.beq y 74) (mX3_save) (fun _ _ => none)
noncomputable def kX1_save (pc : Nat) (L : List (Option Value)) (st : List Value) (M : QM) : Option QR := q_D cs_X1_save oX1_save (0, 0) (true, pc, L, st, M, 0, 0)
noncomputable def mX1_save (as : List Value) (M : QM) : Option QR := cond (Nat.ble (q_sl as).length 3) (kX1_save 0 (q_L0 as 3) [] M) none
noncomputable def oX3_load : QO := fun y => fun _ _ => none
noncomputable def kX3_load (pc : Nat) (L : List (Option Value)) (st : List Value) (M : QM) : Option QR := q_D cs_X3_load oX3_load (0, 0) (true, pc, L, st, M, 0, 0)
noncomputable def mX3_load (as : List Value) (M : QM) : Option QR := cond (Nat.ble (q_sl as).length 3) (kX3_load 0 (q_L0 as 3) [] M) none
noncomputable def oX1_load : QO := fun y => cond (Nat.beq y 75) (mX3_load) (fun _ _ => none)
noncomputable def kX1_load (pc : Nat) (L : List (Option Value)) (st : List Value) (M : QM) : Option QR := q_D cs_X1_load oX1_load (0, 0) (true, pc, L, st, M, 0, 0)
noncomputable def mX1_load (as : List Value) (M : QM) : Option QR := cond (Nat.ble (q_sl as).length 3) (kX1_load 0 (q_L0 as 3) [] M) none
noncomputable def oX2_countSteps : QO := fun y => fun _ _ => none
noncomputable def kX2_countSteps (pc : Nat) (L : List (Option Value)) (st : List Value) (M : QM) : Option QR := q_D cs_X2_countSteps oX2_countSteps (0, 0) (true, pc, L, st, M, 0, 0)
noncomputable def mX2_countSteps (as : List Value) (M : QM) : Option QR := cond (Nat.ble (q_sl as).length 1) (kX2_countSteps 0 (q_L0 as 1) [] M) none
noncomputable def oX2_stepCount : QO := fun y => cond (Nat.beq y 59) (mX2_countSteps) (fun _ _ => none)
noncomputable def kX2_stepCount (pc : Nat) (L : List (Option Value)) (st : List Value) (M : QM) : Option QR := q_D cs_X2_stepCount oX2_stepCount (0, 0) (true, pc, L, st, M, 0, 0)
noncomputable def mX2_stepCount (as : List Value) (M : QM) : Option QR := cond (Nat.ble (q_sl as).length 3) (kX2_stepCount 0 (q_L0 as 3) [] M) none
noncomputable def oX2_counted : QO := fun y => fun _ _ => none
noncomputable def kX2_counted (pc : Nat) (L : List (Option Value)) (st : List Value) (M : QM) : Option QR := q_D cs_X2_counted oX2_counted (0, 0) (true, pc, L, st, M, 0, 0)
noncomputable def mX2_counted (as : List Value) (M : QM) : Option QR := cond (Nat.ble (q_sl as).length 4) (kX2_counted 0 (q_L0 as 4) [] M) none
noncomputable def oX2_pattern : QO := fun y => cond (Nat.beq y 17) (mX0_keptSafe) (cond (Nat.beq y 59) (mX2_countSteps) (cond (Nat.beq y 61) (mX2_counted) (fun _ _ => none)))
noncomputable def kX2_pattern (pc : Nat) (L : List (Option Value)) (st : List Value) (M : QM) : Option QR := q_D cs_X2_pattern oX2_pattern (0, 0) (true, pc, L, st, M, 0, 0)
noncomputable def mX2_pattern (as : List Value) (M : QM) : Option QR := cond (Nat.ble (q_sl as).length 5) (kX2_pattern 0 (q_L0 as 5) [] M) none
noncomputable def oX2_stepsOf : QO := fun y => cond (Nat.beq y 60) (mX2_stepCount) (cond (Nat.beq y 62) (mX2_pattern) (fun _ _ => none))
noncomputable def kX2_stepsOf (pc : Nat) (L : List (Option Value)) (st : List Value) (M : QM) : Option QR := q_D cs_X2_stepsOf oX2_stepsOf (0, 0) (true, pc, L, st, M, 0, 0)
noncomputable def mX2_stepsOf (as : List Value) (M : QM) : Option QR := cond (Nat.ble (q_sl as).length 6) (kX2_stepsOf 0 (q_L0 as 6) [] M) none
noncomputable def oX3_count : QO := fun y => cond (Nat.beq y 389) (mJ6_bitCount_0f7a4) (fun _ _ => none)
noncomputable def kX3_count (pc : Nat) (L : List (Option Value)) (st : List Value) (M : QM) : Option QR := q_D cs_X3_count oX3_count (0, 0) (true, pc, L, st, M, 0, 0)
noncomputable def mX3_count (as : List Value) (M : QM) : Option QR := cond (Nat.ble (q_sl as).length 1) (kX3_count 0 (q_L0 as 1) [] M) none
noncomputable def oX3_pairOf : QO := fun y => fun _ _ => none
noncomputable def kX3_pairOf (pc : Nat) (L : List (Option Value)) (st : List Value) (M : QM) : Option QR := q_D cs_X3_pairOf oX3_pairOf (0, 0) (true, pc, L, st, M, 0, 0)
noncomputable def mX3_pairOf (as : List Value) (M : QM) : Option QR := cond (Nat.ble (q_sl as).length 5) (kX3_pairOf 0 (q_L0 as 5) [] M) none
noncomputable def oX4_put : QO := fun y => fun _ _ => none
noncomputable def kX4_put (pc : Nat) (L : List (Option Value)) (st : List Value) (M : QM) : Option QR := q_D cs_X4_put oX4_put (0, 0) (true, pc, L, st, M, 0, 0)
noncomputable def mX4_put (as : List Value) (M : QM) : Option QR := cond (Nat.ble (q_sl as).length 2) (kX4_put 0 (q_L0 as 2) [] M) none
noncomputable def oX5_init : QO := fun y => cond (Nat.beq y 64) (mX3_init) (fun _ _ => none)
noncomputable def kX5_init (pc : Nat) (L : List (Option Value)) (st : List Value) (M : QM) (ce sl : Nat) : Option QR := q_D cs_X5_init oX5_init (3, 17) (true, pc, L, st, M, ce, sl)
noncomputable def mX5_init (as : List Value) (M : QM) : Option QR := cond (Nat.ble (q_sl as).length 1) (kX5_init 0 (q_L0 as 1) [] M 0 0) none
noncomputable def oX5_look : QO := fun y => cond (Nat.beq y 19) (mX0_readsAt) (cond (Nat.beq y 20) (mX0_receiversAt) (cond (Nat.beq y 60) (mX2_stepCount) (cond (Nat.beq y 62) (mX2_pattern) (cond (Nat.beq y 73) (mX3_levels) (fun _ _ => none)))))
noncomputable def kX5_look (pc : Nat) (L : List (Option Value)) (st : List Value) (M : QM) : Option QR := q_D cs_X5_look oX5_look (0, 0) (true, pc, L, st, M, 0, 0)
noncomputable def mX5_look (as : List Value) (M : QM) : Option QR := cond (Nat.ble (q_sl as).length 6) (kX5_look 0 (q_L0 as 6) [] M) none
noncomputable def oX5_goodCount : QO := fun y => cond (Nat.beq y 389) (mJ6_bitCount_0f7a4) (fun _ _ => none)
noncomputable def kX5_goodCount (pc : Nat) (L : List (Option Value)) (st : List Value) (M : QM) : Option QR := q_D cs_X5_goodCount oX5_goodCount (0, 0) (true, pc, L, st, M, 0, 0)
noncomputable def mX5_goodCount (as : List Value) (M : QM) : Option QR := cond (Nat.ble (q_sl as).length 1) (kX5_goodCount 0 (q_L0 as 1) [] M) none
noncomputable def oX5_across : QO := fun y => fun _ _ => none
noncomputable def kX5_across (pc : Nat) (L : List (Option Value)) (st : List Value) (M : QM) : Option QR := q_D cs_X5_across oX5_across (0, 0) (true, pc, L, st, M, 0, 0)
noncomputable def mX5_across (as : List Value) (M : QM) : Option QR := cond (Nat.ble (q_sl as).length 5) (kX5_across 0 (q_L0 as 5) [] M) none
noncomputable def oX5_answerAt : QO := fun y => cond (Nat.beq y 86) (mX5_across) (fun _ _ => none)
noncomputable def kX5_answerAt (pc : Nat) (L : List (Option Value)) (st : List Value) (M : QM) : Option QR := q_D cs_X5_answerAt oX5_answerAt (0, 0) (true, pc, L, st, M, 0, 0)
noncomputable def mX5_answerAt (as : List Value) (M : QM) : Option QR := cond (Nat.ble (q_sl as).length 2) (kX5_answerAt 0 (q_L0 as 2) [] M) none
noncomputable def oX5_isToldToSome : QO := fun y => cond (Nat.beq y 86) (mX5_across) (fun _ _ => none)
noncomputable def kX5_isToldToSome (pc : Nat) (L : List (Option Value)) (st : List Value) (M : QM) : Option QR := q_D cs_X5_isToldToSome oX5_isToldToSome (0, 0) (true, pc, L, st, M, 0, 0)
noncomputable def mX5_isToldToSome (as : List Value) (M : QM) : Option QR := cond (Nat.ble (q_sl as).length 4) (kX5_isToldToSome 0 (q_L0 as 4) [] M) none
noncomputable def oX5_aliasedNets : QO := fun y => cond (Nat.beq y 85) (mX5_answerAt) (cond (Nat.beq y 88) (mX5_isToldToSome) (fun _ _ => none))
noncomputable def kX5_aliasedNets (pc : Nat) (L : List (Option Value)) (st : List Value) (M : QM) : Option QR := q_D cs_X5_aliasedNets oX5_aliasedNets (0, 0) (true, pc, L, st, M, 0, 0)
noncomputable def mX5_aliasedNets (as : List Value) (M : QM) : Option QR := cond (Nat.ble (q_sl as).length 6) (kX5_aliasedNets 0 (q_L0 as 6) [] M) none
noncomputable def oX5_isAnswerAmong : QO := fun y => cond (Nat.beq y 85) (mX5_answerAt) (fun _ _ => none)
noncomputable def kX5_isAnswerAmong (pc : Nat) (L : List (Option Value)) (st : List Value) (M : QM) : Option QR := q_D cs_X5_isAnswerAmong oX5_isAnswerAmong (0, 0) (true, pc, L, st, M, 0, 0)
noncomputable def mX5_isAnswerAmong (as : List Value) (M : QM) : Option QR := cond (Nat.ble (q_sl as).length 4) (kX5_isAnswerAmong 0 (q_L0 as 4) [] M) none
noncomputable def oX5_shareAnswer : QO := fun y => cond (Nat.beq y 85) (mX5_answerAt) (cond (Nat.beq y 89) (mX5_isAnswerAmong) (fun _ _ => none))
noncomputable def kX5_shareAnswer (pc : Nat) (L : List (Option Value)) (st : List Value) (M : QM) : Option QR := q_D cs_X5_shareAnswer oX5_shareAnswer (0, 0) (true, pc, L, st, M, 0, 0)
noncomputable def mX5_shareAnswer (as : List Value) (M : QM) : Option QR := cond (Nat.ble (q_sl as).length 4) (kX5_shareAnswer 0 (q_L0 as 4) [] M) none
noncomputable def oX5_confoundedWith : QO := fun y => cond (Nat.beq y 70) (mX3_hanging) (cond (Nat.beq y 91) (mX5_shareAnswer) (fun _ _ => none))
noncomputable def kX5_confoundedWith (pc : Nat) (L : List (Option Value)) (st : List Value) (M : QM) : Option QR := q_D cs_X5_confoundedWith oX5_confoundedWith (0, 0) (true, pc, L, st, M, 0, 0)
noncomputable def mX5_confoundedWith (as : List Value) (M : QM) : Option QR := cond (Nat.ble (q_sl as).length 8) (kX5_confoundedWith 0 (q_L0 as 8) [] M) none
noncomputable def oX5_commonAnswer : QO := fun y => cond (Nat.beq y 85) (mX5_answerAt) (fun _ _ => none)
noncomputable def kX5_commonAnswer (pc : Nat) (L : List (Option Value)) (st : List Value) (M : QM) : Option QR := q_D cs_X5_commonAnswer oX5_commonAnswer (0, 0) (true, pc, L, st, M, 0, 0)
noncomputable def mX5_commonAnswer (as : List Value) (M : QM) : Option QR := cond (Nat.ble (q_sl as).length 5) (kX5_commonAnswer 0 (q_L0 as 5) [] M) none
noncomputable def oX5_verdictOf : QO := fun y => cond (Nat.beq y 89) (mX5_isAnswerAmong) (cond (Nat.beq y 93) (mX5_commonAnswer) (fun _ _ => none))
noncomputable def kX5_verdictOf (pc : Nat) (L : List (Option Value)) (st : List Value) (M : QM) : Option QR := q_D cs_X5_verdictOf oX5_verdictOf (0, 0) (true, pc, L, st, M, 0, 0)
noncomputable def mX5_verdictOf (as : List Value) (M : QM) : Option QR := cond (Nat.ble (q_sl as).length 5) (kX5_verdictOf 0 (q_L0 as 5) [] M) none
noncomputable def oX5_worstNet : QO := fun y => cond (Nat.beq y 389) (mJ6_bitCount_0f7a4) (fun _ _ => none)
noncomputable def kX5_worstNet (pc : Nat) (L : List (Option Value)) (st : List Value) (M : QM) : Option QR := q_D cs_X5_worstNet oX5_worstNet (0, 0) (true, pc, L, st, M, 0, 0)
noncomputable def mX5_worstNet (as : List Value) (M : QM) : Option QR := cond (Nat.ble (q_sl as).length 6) (kX5_worstNet 0 (q_L0 as 6) [] M) none
noncomputable def oX5_bestMended : QO := fun y => cond (Nat.beq y 22) (mX0_singleCount) (cond (Nat.beq y 33) (mX0_isThere) (cond (Nat.beq y 35) (mX0_turnSingle) (cond (Nat.beq y 66) (mX3_takeOver) (cond (Nat.beq y 83) (mX5_look) (cond (Nat.beq y 84) (mX5_goodCount) (fun _ _ => none))))))
noncomputable def kX5_bestMended (pc : Nat) (L : List (Option Value)) (st : List Value) (M : QM) : Option QR := q_D cs_X5_bestMended oX5_bestMended (0, 0) (true, pc, L, st, M, 0, 0)
noncomputable def mX5_bestMended (as : List Value) (M : QM) : Option QR := cond (Nat.ble (q_sl as).length 7) (kX5_bestMended 0 (q_L0 as 7) [] M) none
noncomputable def oX5_safestPattern : QO := fun y => cond (Nat.beq y 18) (mX0_unsafeAt) (cond (Nat.beq y 19) (mX0_readsAt) (cond (Nat.beq y 20) (mX0_receiversAt) (cond (Nat.beq y 73) (mX3_levels) (cond (Nat.beq y 389) (mJ6_bitCount_0f7a4) (fun _ _ => none)))))
noncomputable def kX5_safestPattern (pc : Nat) (L : List (Option Value)) (st : List Value) (M : QM) : Option QR := q_D cs_X5_safestPattern oX5_safestPattern (0, 0) (true, pc, L, st, M, 0, 0)
noncomputable def mX5_safestPattern (as : List Value) (M : QM) : Option QR := cond (Nat.ble (q_sl as).length 9) (kX5_safestPattern 0 (q_L0 as 9) [] M) none
noncomputable def oX6_init : QO := fun y => cond (Nat.beq y 64) (mX3_init) (fun _ _ => none)
noncomputable def kX6_init (pc : Nat) (L : List (Option Value)) (st : List Value) (M : QM) (ce sl : Nat) : Option QR := q_D cs_X6_init oX6_init (3, 935) (true, pc, L, st, M, ce, sl)
noncomputable def mX6_init (as : List Value) (M : QM) : Option QR := cond (Nat.ble (q_sl as).length 1) (kX6_init 0 (q_L0 as 1) [] M 0 0) none
noncomputable def oX6_forget : QO := fun y => fun _ _ => none
noncomputable def kX6_forget (pc : Nat) (L : List (Option Value)) (st : List Value) (M : QM) : Option QR := q_D cs_X6_forget oX6_forget (0, 0) (true, pc, L, st, M, 0, 0)
noncomputable def mX6_forget (as : List Value) (M : QM) : Option QR := cond (Nat.ble (q_sl as).length 1) (kX6_forget 0 (q_L0 as 1) [] M) none
noncomputable def oX6_tellPatterns : QO := fun y => cond (Nat.beq y 60) (mX2_stepCount) (cond (Nat.beq y 62) (mX2_pattern) (fun _ _ => none))
noncomputable def kX6_tellPatterns (pc : Nat) (L : List (Option Value)) (st : List Value) (M : QM) : Option QR := q_D cs_X6_tellPatterns oX6_tellPatterns (0, 0) (true, pc, L, st, M, 0, 0)
noncomputable def mX6_tellPatterns (as : List Value) (M : QM) : Option QR := cond (Nat.ble (q_sl as).length 6) (kX6_tellPatterns 0 (q_L0 as 6) [] M) none
noncomputable def oX6_prepare : QO := fun y => cond (Nat.beq y 19) (mX0_readsAt) (cond (Nat.beq y 21) (mX0_floatingAt) (cond (Nat.beq y 22) (mX0_singleCount) (cond (Nat.beq y 35) (mX0_turnSingle) (cond (Nat.beq y 65) (mX3_mendAll) (cond (Nat.beq y 73) (mX3_levels) (cond (Nat.beq y 100) (mX6_tellPatterns) (fun _ _ => none)))))))
noncomputable def kX6_prepare (pc : Nat) (L : List (Option Value)) (st : List Value) (M : QM) : Option QR := q_D cs_X6_prepare oX6_prepare (0, 0) (true, pc, L, st, M, 0, 0)
noncomputable def mX6_prepare (as : List Value) (M : QM) : Option QR := cond (Nat.ble (q_sl as).length 9) (kX6_prepare 0 (q_L0 as 9) [] M) none
noncomputable def oX6_columnOf : QO := fun y => cond (Nat.beq y 60) (mX2_stepCount) (fun _ _ => none)
noncomputable def kX6_columnOf (pc : Nat) (L : List (Option Value)) (st : List Value) (M : QM) : Option QR := q_D cs_X6_columnOf oX6_columnOf (0, 0) (true, pc, L, st, M, 0, 0)
noncomputable def mX6_columnOf (as : List Value) (M : QM) : Option QR := cond (Nat.ble (q_sl as).length 6) (kX6_columnOf 0 (q_L0 as 6) [] M) none
noncomputable def oX6_readsIn : QO := fun y => fun _ _ => none
noncomputable def kX6_readsIn (pc : Nat) (L : List (Option Value)) (st : List Value) (M : QM) : Option QR := q_D cs_X6_readsIn oX6_readsIn (0, 0) (true, pc, L, st, M, 0, 0)
noncomputable def mX6_readsIn (as : List Value) (M : QM) : Option QR := cond (Nat.ble (q_sl as).length 3) (kX6_readsIn 0 (q_L0 as 3) [] M) none
noncomputable def oX6_parts : QO := fun y => cond (Nat.beq y 60) (mX2_stepCount) (cond (Nat.beq y 101) (mX6_columnOf) (cond (Nat.beq y 102) (mX6_readsIn) (fun _ _ => none)))
noncomputable def kX6_parts (pc : Nat) (L : List (Option Value)) (st : List Value) (M : QM) : Option QR := q_D cs_X6_parts oX6_parts (0, 0) (true, pc, L, st, M, 0, 0)
noncomputable def mX6_parts (as : List Value) (M : QM) : Option QR := cond (Nat.ble (q_sl as).length 8) (kX6_parts 0 (q_L0 as 8) [] M) none
noncomputable def oX6_countFromNone : QO := fun y => cond (Nat.beq y 22) (mX0_singleCount) (cond (Nat.beq y 103) (mX6_parts) (fun _ _ => none))
noncomputable def kX6_countFromNone (pc : Nat) (L : List (Option Value)) (st : List Value) (M : QM) : Option QR := q_D cs_X6_countFromNone oX6_countFromNone (0, 0) (true, pc, L, st, M, 0, 0)
noncomputable def mX6_countFromNone (as : List Value) (M : QM) : Option QR := cond (Nat.ble (q_sl as).length 6) (kX6_countFromNone 0 (q_L0 as 6) [] M) none
noncomputable def oX6_partsFromAll : QO := fun y => cond (Nat.beq y 103) (mX6_parts) (fun _ _ => none)
noncomputable def kX6_partsFromAll (pc : Nat) (L : List (Option Value)) (st : List Value) (M : QM) : Option QR := q_D cs_X6_partsFromAll oX6_partsFromAll (0, 0) (true, pc, L, st, M, 0, 0)
noncomputable def mX6_partsFromAll (as : List Value) (M : QM) : Option QR := cond (Nat.ble (q_sl as).length 6) (kX6_partsFromAll 0 (q_L0 as 6) [] M) none
noncomputable def oX6_countFromAll : QO := fun y => cond (Nat.beq y 22) (mX0_singleCount) (cond (Nat.beq y 106) (mX6_partsFromAll) (fun _ _ => none))
noncomputable def kX6_countFromAll (pc : Nat) (L : List (Option Value)) (st : List Value) (M : QM) : Option QR := q_D cs_X6_countFromAll oX6_countFromAll (0, 0) (true, pc, L, st, M, 0, 0)
noncomputable def mX6_countFromAll (as : List Value) (M : QM) : Option QR := cond (Nat.ble (q_sl as).length 6) (kX6_countFromAll 0 (q_L0 as 6) [] M) none
noncomputable def oX6_leastKind : QO := fun y => cond (Nat.beq y 22) (mX0_singleCount) (cond (Nat.beq y 60) (mX2_stepCount) (cond (Nat.beq y 104) (mX6_countFromNone) (fun _ _ => none)))
noncomputable def kX6_leastKind (pc : Nat) (L : List (Option Value)) (st : List Value) (M : QM) : Option QR := q_D cs_X6_leastKind oX6_leastKind (0, 0) (true, pc, L, st, M, 0, 0)
noncomputable def mX6_leastKind (as : List Value) (M : QM) : Option QR := cond (Nat.ble (q_sl as).length 7) (kX6_leastKind 0 (q_L0 as 7) [] M) none
noncomputable def oX7_init : QO := fun y => fun _ _ => none
noncomputable def kX7_init (pc : Nat) (L : List (Option Value)) (st : List Value) (M : QM) (ce sl : Nat) : Option QR := q_D cs_X7_init oX7_init (6, 180) (true, pc, L, st, M, ce, sl)
noncomputable def mX7_init (as : List Value) (M : QM) : Option QR := cond (Nat.ble (q_sl as).length 1) (kX7_init 0 (q_L0 as 1) [] M 0 0) none
noncomputable def oX7_forget : QO := fun y => fun _ _ => none
noncomputable def kX7_forget (pc : Nat) (L : List (Option Value)) (st : List Value) (M : QM) : Option QR := q_D cs_X7_forget oX7_forget (0, 0) (true, pc, L, st, M, 0, 0)
noncomputable def mX7_forget (as : List Value) (M : QM) : Option QR := cond (Nat.ble (q_sl as).length 1) (kX7_forget 0 (q_L0 as 1) [] M) none
noncomputable def oX7_write : QO := fun y => fun _ _ => none
noncomputable def kX7_write (pc : Nat) (L : List (Option Value)) (st : List Value) (M : QM) : Option QR := q_D cs_X7_write oX7_write (0, 0) (true, pc, L, st, M, 0, 0)
noncomputable def mX7_write (as : List Value) (M : QM) : Option QR := cond (Nat.ble (q_sl as).length 6) (kX7_write 0 (q_L0 as 6) [] M) none
noncomputable def oX7_strike : QO := fun y => fun _ _ => none
noncomputable def kX7_strike (pc : Nat) (L : List (Option Value)) (st : List Value) (M : QM) : Option QR := q_D cs_X7_strike oX7_strike (0, 0) (true, pc, L, st, M, 0, 0)
noncomputable def mX7_strike (as : List Value) (M : QM) : Option QR := cond (Nat.ble (q_sl as).length 3) (kX7_strike 0 (q_L0 as 3) [] M) none
noncomputable def oX7_countsAt : QO := fun y => fun _ _ => none
noncomputable def kX7_countsAt (pc : Nat) (L : List (Option Value)) (st : List Value) (M : QM) : Option QR := q_D cs_X7_countsAt oX7_countsAt (0, 0) (true, pc, L, st, M, 0, 0)
noncomputable def mX7_countsAt (as : List Value) (M : QM) : Option QR := cond (Nat.ble (q_sl as).length 3) (kX7_countsAt 0 (q_L0 as 3) [] M) none
noncomputable def oX7_fittingOne : QO := fun y => cond (Nat.beq y 22) (mX0_singleCount) (cond (Nat.beq y 101) (mX6_columnOf) (cond (Nat.beq y 102) (mX6_readsIn) (fun _ _ => none)))
noncomputable def kX7_fittingOne (pc : Nat) (L : List (Option Value)) (st : List Value) (M : QM) : Option QR := q_D cs_X7_fittingOne oX7_fittingOne (0, 0) (true, pc, L, st, M, 0, 0)
noncomputable def mX7_fittingOne (as : List Value) (M : QM) : Option QR := cond (Nat.ble (q_sl as).length 9) (kX7_fittingOne 0 (q_L0 as 9) [] M) none
noncomputable def oX7_fitting : QO := fun y => cond (Nat.beq y 22) (mX0_singleCount) (cond (Nat.beq y 112) (mX7_countsAt) (cond (Nat.beq y 114) (mX7_fittingOne) (fun _ _ => none)))
noncomputable def kX7_fitting (pc : Nat) (L : List (Option Value)) (st : List Value) (M : QM) : Option QR := q_D cs_X7_fitting oX7_fitting (0, 0) (true, pc, L, st, M, 0, 0)
noncomputable def mX7_fitting (as : List Value) (M : QM) : Option QR := cond (Nat.ble (q_sl as).length 7) (kX7_fitting 0 (q_L0 as 7) [] M) none
noncomputable def oX7_fittingAt : QO := fun y => cond (Nat.beq y 22) (mX0_singleCount) (cond (Nat.beq y 113) (mX7_fitting) (fun _ _ => none))
noncomputable def kX7_fittingAt (pc : Nat) (L : List (Option Value)) (st : List Value) (M : QM) : Option QR := q_D cs_X7_fittingAt oX7_fittingAt (0, 0) (true, pc, L, st, M, 0, 0)
noncomputable def mX7_fittingAt (as : List Value) (M : QM) : Option QR := cond (Nat.ble (q_sl as).length 10) (kX7_fittingAt 0 (q_L0 as 10) [] M) none
noncomputable def oX7_mostAlike : QO := fun y => cond (Nat.beq y 102) (mX6_readsIn) (fun _ _ => none)
noncomputable def kX7_mostAlike (pc : Nat) (L : List (Option Value)) (st : List Value) (M : QM) : Option QR := q_D cs_X7_mostAlike oX7_mostAlike (0, 0) (true, pc, L, st, M, 0, 0)
noncomputable def mX7_mostAlike (as : List Value) (M : QM) : Option QR := cond (Nat.ble (q_sl as).length 10) (kX7_mostAlike 0 (q_L0 as 10) [] M) none
noncomputable def oX7_bestStep : QO := fun y => cond (Nat.beq y 22) (mX0_singleCount) (cond (Nat.beq y 60) (mX2_stepCount) (cond (Nat.beq y 101) (mX6_columnOf) (cond (Nat.beq y 113) (mX7_fitting) (cond (Nat.beq y 117) (mX7_mostAlike) (fun _ _ => none)))))
noncomputable def kX7_bestStep (pc : Nat) (L : List (Option Value)) (st : List Value) (M : QM) : Option QR := q_D cs_X7_bestStep oX7_bestStep (0, 0) (true, pc, L, st, M, 0, 0)
noncomputable def mX7_bestStep (as : List Value) (M : QM) : Option QR := cond (Nat.ble (q_sl as).length 11) (kX7_bestStep 0 (q_L0 as 11) [] M) none
noncomputable def oX8_init : QO := fun y => fun _ _ => none
noncomputable def kX8_init (pc : Nat) (L : List (Option Value)) (st : List Value) (M : QM) (ce sl : Nat) : Option QR := q_D cs_X8_init oX8_init (3, 1059) (true, pc, L, st, M, ce, sl)
noncomputable def mX8_init (as : List Value) (M : QM) : Option QR := cond (Nat.ble (q_sl as).length 1) (kX8_init 0 (q_L0 as 1) [] M 0 0) none
noncomputable def oX8_rowAt : QO := fun y => fun _ _ => none
noncomputable def kX8_rowAt (pc : Nat) (L : List (Option Value)) (st : List Value) (M : QM) : Option QR := q_D cs_X8_rowAt oX8_rowAt (0, 0) (true, pc, L, st, M, 0, 0)
noncomputable def mX8_rowAt (as : List Value) (M : QM) : Option QR := cond (Nat.ble (q_sl as).length 2) (kX8_rowAt 0 (q_L0 as 2) [] M) none
noncomputable def oX8_forget : QO := fun y => cond (Nat.beq y 57) (mX1_save) (cond (Nat.beq y 119) (mX8_rowAt) (fun _ _ => none))
noncomputable def kX8_forget (pc : Nat) (L : List (Option Value)) (st : List Value) (M : QM) : Option QR := q_D cs_X8_forget oX8_forget (0, 0) (true, pc, L, st, M, 0, 0)
noncomputable def mX8_forget (as : List Value) (M : QM) : Option QR := cond (Nat.ble (q_sl as).length 2) (kX8_forget 0 (q_L0 as 2) [] M) none
noncomputable def oX8_keep : QO := fun y => cond (Nat.beq y 57) (mX1_save) (cond (Nat.beq y 119) (mX8_rowAt) (fun _ _ => none))
noncomputable def kX8_keep (pc : Nat) (L : List (Option Value)) (st : List Value) (M : QM) : Option QR := q_D cs_X8_keep oX8_keep (0, 0) (true, pc, L, st, M, 0, 0)
noncomputable def mX8_keep (as : List Value) (M : QM) : Option QR := cond (Nat.ble (q_sl as).length 2) (kX8_keep 0 (q_L0 as 2) [] M) none
noncomputable def oX8_goBack : QO := fun y => cond (Nat.beq y 58) (mX1_load) (cond (Nat.beq y 119) (mX8_rowAt) (fun _ _ => none))
noncomputable def kX8_goBack (pc : Nat) (L : List (Option Value)) (st : List Value) (M : QM) : Option QR := q_D cs_X8_goBack oX8_goBack (0, 0) (true, pc, L, st, M, 0, 0)
noncomputable def mX8_goBack (as : List Value) (M : QM) : Option QR := cond (Nat.ble (q_sl as).length 2) (kX8_goBack 0 (q_L0 as 2) [] M) none
noncomputable def oX8_goOn : QO := fun y => cond (Nat.beq y 58) (mX1_load) (cond (Nat.beq y 119) (mX8_rowAt) (fun _ _ => none))
noncomputable def kX8_goOn (pc : Nat) (L : List (Option Value)) (st : List Value) (M : QM) : Option QR := q_D cs_X8_goOn oX8_goOn (0, 0) (true, pc, L, st, M, 0, 0)
noncomputable def mX8_goOn (as : List Value) (M : QM) : Option QR := cond (Nat.ble (q_sl as).length 2) (kX8_goOn 0 (q_L0 as 2) [] M) none
noncomputable def oX8_undoable : QO := fun y => fun _ _ => none
noncomputable def kX8_undoable (pc : Nat) (L : List (Option Value)) (st : List Value) (M : QM) : Option QR := q_D cs_X8_undoable oX8_undoable (0, 0) (true, pc, L, st, M, 0, 0)
noncomputable def mX8_undoable (as : List Value) (M : QM) : Option QR := cond (Nat.ble (q_sl as).length 1) (kX8_undoable 0 (q_L0 as 1) [] M) none
noncomputable def oX8_redoable : QO := fun y => fun _ _ => none
noncomputable def kX8_redoable (pc : Nat) (L : List (Option Value)) (st : List Value) (M : QM) : Option QR := q_D cs_X8_redoable oX8_redoable (0, 0) (true, pc, L, st, M, 0, 0)
noncomputable def mX8_redoable (as : List Value) (M : QM) : Option QR := cond (Nat.ble (q_sl as).length 1) (kX8_redoable 0 (q_L0 as 1) [] M) none
noncomputable def oX8_emptyBoxes : QO := fun y => fun _ _ => none
noncomputable def kX8_emptyBoxes (pc : Nat) (L : List (Option Value)) (st : List Value) (M : QM) : Option QR := q_D cs_X8_emptyBoxes oX8_emptyBoxes (0, 0) (true, pc, L, st, M, 0, 0)
noncomputable def mX8_emptyBoxes (as : List Value) (M : QM) : Option QR := cond (Nat.ble (q_sl as).length 2) (kX8_emptyBoxes 0 (q_L0 as 2) [] M) none
noncomputable def oX8_putInBox : QO := fun y => cond (Nat.beq y 57) (mX1_save) (fun _ _ => none)
noncomputable def kX8_putInBox (pc : Nat) (L : List (Option Value)) (st : List Value) (M : QM) : Option QR := q_D cs_X8_putInBox oX8_putInBox (0, 0) (true, pc, L, st, M, 0, 0)
noncomputable def mX8_putInBox (as : List Value) (M : QM) : Option QR := cond (Nat.ble (q_sl as).length 3) (kX8_putInBox 0 (q_L0 as 3) [] M) none
noncomputable def oX8_takeFromBox : QO := fun y => cond (Nat.beq y 58) (mX1_load) (fun _ _ => none)
noncomputable def kX8_takeFromBox (pc : Nat) (L : List (Option Value)) (st : List Value) (M : QM) : Option QR := q_D cs_X8_takeFromBox oX8_takeFromBox (0, 0) (true, pc, L, st, M, 0, 0)
noncomputable def mX8_takeFromBox (as : List Value) (M : QM) : Option QR := cond (Nat.ble (q_sl as).length 3) (kX8_takeFromBox 0 (q_L0 as 3) [] M) none
noncomputable def oX9_init : QO := fun y => cond (Nat.beq y 4) (q_text4) (cond (Nat.beq y 5) (q_text5) (fun _ _ => none))
noncomputable def kX9_init (pc : Nat) (L : List (Option Value)) (st : List Value) (M : QM) (ce sl : Nat) : Option QR := q_D cs_X9_init oX9_init (2, 21) (true, pc, L, st, M, ce, sl)
noncomputable def mX9_init (as : List Value) (M : QM) : Option QR := cond (Nat.ble (q_sl as).length 7) (kX9_init 0 (q_L0 as 7) [] M 0 0) none
noncomputable def oX9_isSignByte : QO := fun y => fun _ _ => none
noncomputable def kX9_isSignByte (pc : Nat) (L : List (Option Value)) (st : List Value) (M : QM) : Option QR := q_D cs_X9_isSignByte oX9_isSignByte (0, 0) (true, pc, L, st, M, 0, 0)
noncomputable def mX9_isSignByte (as : List Value) (M : QM) : Option QR := cond (Nat.ble (q_sl as).length 1) (kX9_isSignByte 0 (q_L0 as 1) [] M) none
noncomputable def oX9_takeWord : QO := fun y => fun _ _ => none
noncomputable def kX9_takeWord (pc : Nat) (L : List (Option Value)) (st : List Value) (M : QM) : Option QR := q_D cs_X9_takeWord oX9_takeWord (0, 0) (true, pc, L, st, M, 0, 0)
noncomputable def mX9_takeWord (as : List Value) (M : QM) : Option QR := cond (Nat.ble (q_sl as).length 2) (kX9_takeWord 0 (q_L0 as 2) [] M) none
noncomputable def oX9_takeNumber : QO := fun y => fun _ _ => none
noncomputable def kX9_takeNumber (pc : Nat) (L : List (Option Value)) (st : List Value) (M : QM) : Option QR := q_D cs_X9_takeNumber oX9_takeNumber (0, 0) (true, pc, L, st, M, 0, 0)
noncomputable def mX9_takeNumber (as : List Value) (M : QM) : Option QR := cond (Nat.ble (q_sl as).length 3) (kX9_takeNumber 0 (q_L0 as 3) [] M) none
noncomputable def oX9_advance : QO := fun y => cond (Nat.beq y 132) (mX9_isSignByte) (cond (Nat.beq y 134) (mX9_takeWord) (cond (Nat.beq y 135) (mX9_takeNumber) (fun _ _ => none)))
noncomputable def kX9_advance (pc : Nat) (L : List (Option Value)) (st : List Value) (M : QM) : Option QR := q_D cs_X9_advance oX9_advance (0, 0) (true, pc, L, st, M, 0, 0)
noncomputable def mX9_advance (as : List Value) (M : QM) : Option QR := cond (Nat.ble (q_sl as).length 2) (kX9_advance 0 (q_L0 as 2) [] M) none
noncomputable def oX9_refuse : QO := fun y => fun _ _ => none
noncomputable def kX9_refuse (pc : Nat) (L : List (Option Value)) (st : List Value) (M : QM) : Option QR := q_D cs_X9_refuse oX9_refuse (0, 0) (true, pc, L, st, M, 0, 0)
noncomputable def mX9_refuse (as : List Value) (M : QM) : Option QR := cond (Nat.ble (q_sl as).length 2) (kX9_refuse 0 (q_L0 as 2) [] M) none
noncomputable def oX9_atSign : QO := fun y => fun _ _ => none
noncomputable def kX9_atSign (pc : Nat) (L : List (Option Value)) (st : List Value) (M : QM) : Option QR := q_D cs_X9_atSign oX9_atSign (0, 0) (true, pc, L, st, M, 0, 0)
noncomputable def mX9_atSign (as : List Value) (M : QM) : Option QR := cond (Nat.ble (q_sl as).length 2) (kX9_atSign 0 (q_L0 as 2) [] M) none
noncomputable def oX9_takeSign : QO := fun y => cond (Nat.beq y 131) (mX9_refuse) (cond (Nat.beq y 133) (mX9_advance) (cond (Nat.beq y 137) (mX9_atSign) (fun _ _ => none)))
noncomputable def kX9_takeSign (pc : Nat) (L : List (Option Value)) (st : List Value) (M : QM) : Option QR := q_D cs_X9_takeSign oX9_takeSign (0, 0) (true, pc, L, st, M, 0, 0)
noncomputable def mX9_takeSign (as : List Value) (M : QM) : Option QR := cond (Nat.ble (q_sl as).length 2) (kX9_takeSign 0 (q_L0 as 2) [] M) none
noncomputable def oX9_atKey : QO := fun y => fun _ _ => none
noncomputable def kX9_atKey (pc : Nat) (L : List (Option Value)) (st : List Value) (M : QM) : Option QR := q_D cs_X9_atKey oX9_atKey (0, 0) (true, pc, L, st, M, 0, 0)
noncomputable def mX9_atKey (as : List Value) (M : QM) : Option QR := cond (Nat.ble (q_sl as).length 2) (kX9_atKey 0 (q_L0 as 2) [] M) none
noncomputable def oX9_takeKey : QO := fun y => cond (Nat.beq y 131) (mX9_refuse) (cond (Nat.beq y 133) (mX9_advance) (cond (Nat.beq y 136) (mX9_atKey) (fun _ _ => none)))
noncomputable def kX9_takeKey (pc : Nat) (L : List (Option Value)) (st : List Value) (M : QM) : Option QR := q_D cs_X9_takeKey oX9_takeKey (0, 0) (true, pc, L, st, M, 0, 0)
noncomputable def mX9_takeKey (as : List Value) (M : QM) : Option QR := cond (Nat.ble (q_sl as).length 2) (kX9_takeKey 0 (q_L0 as 2) [] M) none
noncomputable def oX9_atNumber : QO := fun y => cond (Nat.beq y 131) (mX9_refuse) (fun _ _ => none)
noncomputable def kX9_atNumber (pc : Nat) (L : List (Option Value)) (st : List Value) (M : QM) : Option QR := q_D cs_X9_atNumber oX9_atNumber (0, 0) (true, pc, L, st, M, 0, 0)
noncomputable def mX9_atNumber (as : List Value) (M : QM) : Option QR := cond (Nat.ble (q_sl as).length 3) (kX9_atNumber 0 (q_L0 as 3) [] M) none
noncomputable def oX9_indexOf : QO := fun y => fun _ _ => none
noncomputable def kX9_indexOf (pc : Nat) (L : List (Option Value)) (st : List Value) (M : QM) : Option QR := q_D cs_X9_indexOf oX9_indexOf (0, 0) (true, pc, L, st, M, 0, 0)
noncomputable def mX9_indexOf (as : List Value) (M : QM) : Option QR := cond (Nat.ble (q_sl as).length 5) (kX9_indexOf 0 (q_L0 as 5) [] M) none
noncomputable def oX9_atNewName : QO := fun y => cond (Nat.beq y 131) (mX9_refuse) (cond (Nat.beq y 142) (mX9_indexOf) (fun _ _ => none))
noncomputable def kX9_atNewName (pc : Nat) (L : List (Option Value)) (st : List Value) (M : QM) : Option QR := q_D cs_X9_atNewName oX9_atNewName (0, 0) (true, pc, L, st, M, 0, 0)
noncomputable def mX9_atNewName (as : List Value) (M : QM) : Option QR := cond (Nat.ble (q_sl as).length 3) (kX9_atNewName 0 (q_L0 as 3) [] M) none
noncomputable def oX9_deviceLine : QO := fun y => cond (Nat.beq y 131) (mX9_refuse) (cond (Nat.beq y 133) (mX9_advance) (cond (Nat.beq y 136) (mX9_atKey) (cond (Nat.beq y 138) (mX9_takeKey) (cond (Nat.beq y 140) (mX9_atNumber) (cond (Nat.beq y 143) (mX9_atNewName) (fun _ _ => none))))))
noncomputable def kX9_deviceLine (pc : Nat) (L : List (Option Value)) (st : List Value) (M : QM) : Option QR := q_D cs_X9_deviceLine oX9_deviceLine (0, 0) (true, pc, L, st, M, 0, 0)
noncomputable def mX9_deviceLine (as : List Value) (M : QM) : Option QR := cond (Nat.ble (q_sl as).length 2) (kX9_deviceLine 0 (q_L0 as 2) [] M) none
noncomputable def oX9_atOldName : QO := fun y => cond (Nat.beq y 131) (mX9_refuse) (cond (Nat.beq y 142) (mX9_indexOf) (fun _ _ => none))
noncomputable def kX9_atOldName (pc : Nat) (L : List (Option Value)) (st : List Value) (M : QM) : Option QR := q_D cs_X9_atOldName oX9_atOldName (0, 0) (true, pc, L, st, M, 0, 0)
noncomputable def mX9_atOldName (as : List Value) (M : QM) : Option QR := cond (Nat.ble (q_sl as).length 4) (kX9_atOldName 0 (q_L0 as 4) [] M) none
noncomputable def oX9_atCell : QO := fun y => cond (Nat.beq y 133) (mX9_advance) (cond (Nat.beq y 140) (mX9_atNumber) (cond (Nat.beq y 144) (mX9_atOldName) (cond (Nat.beq y 178) (mX11_placeOf) (fun _ _ => none))))
noncomputable def kX9_atCell (pc : Nat) (L : List (Option Value)) (st : List Value) (M : QM) : Option QR := q_D cs_X9_atCell oX9_atCell (0, 0) (true, pc, L, st, M, 0, 0)
noncomputable def mX9_atCell (as : List Value) (M : QM) : Option QR := cond (Nat.ble (q_sl as).length 2) (kX9_atCell 0 (q_L0 as 2) [] M) none
noncomputable def oX9_cellOfNet : QO := fun y => cond (Nat.beq y 131) (mX9_refuse) (cond (Nat.beq y 133) (mX9_advance) (cond (Nat.beq y 147) (mX9_atCell) (fun _ _ => none)))
noncomputable def kX9_cellOfNet (pc : Nat) (L : List (Option Value)) (st : List Value) (M : QM) : Option QR := q_D cs_X9_cellOfNet oX9_cellOfNet (0, 0) (true, pc, L, st, M, 0, 0)
noncomputable def mX9_cellOfNet (as : List Value) (M : QM) : Option QR := cond (Nat.ble (q_sl as).length 4) (kX9_cellOfNet 0 (q_L0 as 4) [] M) none
noncomputable def oX9_netLine : QO := fun y => cond (Nat.beq y 131) (mX9_refuse) (cond (Nat.beq y 133) (mX9_advance) (cond (Nat.beq y 136) (mX9_atKey) (cond (Nat.beq y 138) (mX9_takeKey) (cond (Nat.beq y 140) (mX9_atNumber) (cond (Nat.beq y 143) (mX9_atNewName) (cond (Nat.beq y 148) (mX9_cellOfNet) (fun _ _ => none)))))))
noncomputable def kX9_netLine (pc : Nat) (L : List (Option Value)) (st : List Value) (M : QM) : Option QR := q_D cs_X9_netLine oX9_netLine (0, 0) (true, pc, L, st, M, 0, 0)
noncomputable def mX9_netLine (as : List Value) (M : QM) : Option QR := cond (Nat.ble (q_sl as).length 3) (kX9_netLine 0 (q_L0 as 3) [] M) none
noncomputable def oX9_shortLine : QO := fun y => cond (Nat.beq y 68) (mX3_pairOf) (cond (Nat.beq y 131) (mX9_refuse) (cond (Nat.beq y 133) (mX9_advance) (cond (Nat.beq y 136) (mX9_atKey) (cond (Nat.beq y 144) (mX9_atOldName) (fun _ _ => none)))))
noncomputable def kX9_shortLine (pc : Nat) (L : List (Option Value)) (st : List Value) (M : QM) : Option QR := q_D cs_X9_shortLine oX9_shortLine (0, 0) (true, pc, L, st, M, 0, 0)
noncomputable def mX9_shortLine (as : List Value) (M : QM) : Option QR := cond (Nat.ble (q_sl as).length 4) (kX9_shortLine 0 (q_L0 as 4) [] M) none
noncomputable def oX9_openLine : QO := fun y => cond (Nat.beq y 16) (mX0_isReceiver) (cond (Nat.beq y 131) (mX9_refuse) (cond (Nat.beq y 133) (mX9_advance) (cond (Nat.beq y 147) (mX9_atCell) (fun _ _ => none))))
noncomputable def kX9_openLine (pc : Nat) (L : List (Option Value)) (st : List Value) (M : QM) : Option QR := q_D cs_X9_openLine oX9_openLine (0, 0) (true, pc, L, st, M, 0, 0)
noncomputable def mX9_openLine (as : List Value) (M : QM) : Option QR := cond (Nat.ble (q_sl as).length 2) (kX9_openLine 0 (q_L0 as 2) [] M) none
noncomputable def oX9_stuckLine : QO := fun y => cond (Nat.beq y 131) (mX9_refuse) (cond (Nat.beq y 133) (mX9_advance) (cond (Nat.beq y 140) (mX9_atNumber) (cond (Nat.beq y 144) (mX9_atOldName) (fun _ _ => none))))
noncomputable def kX9_stuckLine (pc : Nat) (L : List (Option Value)) (st : List Value) (M : QM) : Option QR := q_D cs_X9_stuckLine oX9_stuckLine (0, 0) (true, pc, L, st, M, 0, 0)
noncomputable def mX9_stuckLine (as : List Value) (M : QM) : Option QR := cond (Nat.ble (q_sl as).length 2) (kX9_stuckLine 0 (q_L0 as 2) [] M) none
noncomputable def oX9_noiseLine : QO := fun y => cond (Nat.beq y 131) (mX9_refuse) (cond (Nat.beq y 133) (mX9_advance) (cond (Nat.beq y 140) (mX9_atNumber) (fun _ _ => none)))
noncomputable def kX9_noiseLine (pc : Nat) (L : List (Option Value)) (st : List Value) (M : QM) : Option QR := q_D cs_X9_noiseLine oX9_noiseLine (0, 0) (true, pc, L, st, M, 0, 0)
noncomputable def mX9_noiseLine (as : List Value) (M : QM) : Option QR := cond (Nat.ble (q_sl as).length 1) (kX9_noiseLine 0 (q_L0 as 1) [] M) none
noncomputable def oX9_drawLine : QO := fun y => cond (Nat.beq y 131) (mX9_refuse) (cond (Nat.beq y 133) (mX9_advance) (cond (Nat.beq y 140) (mX9_atNumber) (fun _ _ => none)))
noncomputable def kX9_drawLine (pc : Nat) (L : List (Option Value)) (st : List Value) (M : QM) : Option QR := q_D cs_X9_drawLine oX9_drawLine (0, 0) (true, pc, L, st, M, 0, 0)
noncomputable def mX9_drawLine (as : List Value) (M : QM) : Option QR := cond (Nat.ble (q_sl as).length 1) (kX9_drawLine 0 (q_L0 as 1) [] M) none
noncomputable def oX9_either (F : QO) : QO := fun y => cond (Nat.beq y 78) (mX4_put) (cond (Nat.beq y 133) (mX9_advance) (cond (Nat.beq y 136) (mX9_atKey) (cond (Nat.beq y 156) (F 156) (fun _ _ => none))))
noncomputable def oX9_both (F : QO) : QO := fun y => cond (Nat.beq y 78) (mX4_put) (cond (Nat.beq y 133) (mX9_advance) (cond (Nat.beq y 136) (mX9_atKey) (cond (Nat.beq y 157) (F 157) (fun _ _ => none))))
noncomputable def oX9_one (F : QO) : QO := fun y => cond (Nat.beq y 78) (mX4_put) (cond (Nat.beq y 131) (mX9_refuse) (cond (Nat.beq y 133) (mX9_advance) (cond (Nat.beq y 136) (mX9_atKey) (cond (Nat.beq y 157) (F 157) (cond (Nat.beq y 158) (F 158) (fun _ _ => none))))))
noncomputable def oX9_relation (F : QO) : QO := fun y => cond (Nat.beq y 78) (mX4_put) (cond (Nat.beq y 133) (mX9_advance) (cond (Nat.beq y 137) (mX9_atSign) (cond (Nat.beq y 159) (F 159) (fun _ _ => none))))
noncomputable def oX9_sum (F : QO) : QO := fun y => cond (Nat.beq y 78) (mX4_put) (cond (Nat.beq y 133) (mX9_advance) (cond (Nat.beq y 137) (mX9_atSign) (cond (Nat.beq y 160) (F 160) (fun _ _ => none))))
noncomputable def oX9_term (F : QO) : QO := fun y => cond (Nat.beq y 78) (mX4_put) (cond (Nat.beq y 133) (mX9_advance) (cond (Nat.beq y 137) (mX9_atSign) (cond (Nat.beq y 161) (F 161) (fun _ _ => none))))
noncomputable def oX9_unit (F : QO) : QO := fun y => cond (Nat.beq y 78) (mX4_put) (cond (Nat.beq y 131) (mX9_refuse) (cond (Nat.beq y 133) (mX9_advance) (cond (Nat.beq y 136) (mX9_atKey) (cond (Nat.beq y 137) (mX9_atSign) (cond (Nat.beq y 139) (mX9_takeSign) (cond (Nat.beq y 155) (F 155) (fun _ _ => none)))))))
noncomputable def qP : Nat → QO
  | 0 => fun _ _ _ => none
  | d + 1 => fun y as M => cond (Nat.beq y 155) (cond (Nat.ble (q_sl as).length 3) (q_D cs_X9_either (oX9_either (qP d)) (0, 0) (true, 0, q_L0 as 3, [], M, 0, 0)) none) (cond (Nat.beq y 156) (cond (Nat.ble (q_sl as).length 3) (q_D cs_X9_both (oX9_both (qP d)) (0, 0) (true, 0, q_L0 as 3, [], M, 0, 0)) none) (cond (Nat.beq y 157) (cond (Nat.ble (q_sl as).length 2) (q_D cs_X9_one (oX9_one (qP d)) (0, 0) (true, 0, q_L0 as 2, [], M, 0, 0)) none) (cond (Nat.beq y 158) (cond (Nat.ble (q_sl as).length 3) (q_D cs_X9_relation (oX9_relation (qP d)) (0, 0) (true, 0, q_L0 as 3, [], M, 0, 0)) none) (cond (Nat.beq y 159) (cond (Nat.ble (q_sl as).length 4) (q_D cs_X9_sum (oX9_sum (qP d)) (0, 0) (true, 0, q_L0 as 4, [], M, 0, 0)) none) (cond (Nat.beq y 160) (cond (Nat.ble (q_sl as).length 4) (q_D cs_X9_term (oX9_term (qP d)) (0, 0) (true, 0, q_L0 as 4, [], M, 0, 0)) none) (cond (Nat.beq y 161) (cond (Nat.ble (q_sl as).length 3) (q_D cs_X9_unit (oX9_unit (qP d)) (0, 0) (true, 0, q_L0 as 3, [], M, 0, 0)) none) (none)))))))
noncomputable def kX9_either (d pc : Nat) (L : List (Option Value)) (st : List Value) (M : QM) : Option QR := q_D cs_X9_either (oX9_either (qP d)) (0, 0) (true, pc, L, st, M, 0, 0)
noncomputable def mX9_either (d : Nat) (as : List Value) (M : QM) : Option QR := cond (Nat.ble (q_sl as).length 3) (kX9_either d 0 (q_L0 as 3) [] M) none
noncomputable def kX9_both (d pc : Nat) (L : List (Option Value)) (st : List Value) (M : QM) : Option QR := q_D cs_X9_both (oX9_both (qP d)) (0, 0) (true, pc, L, st, M, 0, 0)
noncomputable def mX9_both (d : Nat) (as : List Value) (M : QM) : Option QR := cond (Nat.ble (q_sl as).length 3) (kX9_both d 0 (q_L0 as 3) [] M) none
noncomputable def kX9_one (d pc : Nat) (L : List (Option Value)) (st : List Value) (M : QM) : Option QR := q_D cs_X9_one (oX9_one (qP d)) (0, 0) (true, pc, L, st, M, 0, 0)
noncomputable def mX9_one (d : Nat) (as : List Value) (M : QM) : Option QR := cond (Nat.ble (q_sl as).length 2) (kX9_one d 0 (q_L0 as 2) [] M) none
noncomputable def kX9_relation (d pc : Nat) (L : List (Option Value)) (st : List Value) (M : QM) : Option QR := q_D cs_X9_relation (oX9_relation (qP d)) (0, 0) (true, pc, L, st, M, 0, 0)
noncomputable def mX9_relation (d : Nat) (as : List Value) (M : QM) : Option QR := cond (Nat.ble (q_sl as).length 3) (kX9_relation d 0 (q_L0 as 3) [] M) none
noncomputable def kX9_sum (d pc : Nat) (L : List (Option Value)) (st : List Value) (M : QM) : Option QR := q_D cs_X9_sum (oX9_sum (qP d)) (0, 0) (true, pc, L, st, M, 0, 0)
noncomputable def mX9_sum (d : Nat) (as : List Value) (M : QM) : Option QR := cond (Nat.ble (q_sl as).length 4) (kX9_sum d 0 (q_L0 as 4) [] M) none
noncomputable def kX9_term (d pc : Nat) (L : List (Option Value)) (st : List Value) (M : QM) : Option QR := q_D cs_X9_term (oX9_term (qP d)) (0, 0) (true, pc, L, st, M, 0, 0)
noncomputable def mX9_term (d : Nat) (as : List Value) (M : QM) : Option QR := cond (Nat.ble (q_sl as).length 4) (kX9_term d 0 (q_L0 as 4) [] M) none
noncomputable def kX9_unit (d pc : Nat) (L : List (Option Value)) (st : List Value) (M : QM) : Option QR := q_D cs_X9_unit (oX9_unit (qP d)) (0, 0) (true, pc, L, st, M, 0, 0)
noncomputable def mX9_unit (d : Nat) (as : List Value) (M : QM) : Option QR := cond (Nat.ble (q_sl as).length 3) (kX9_unit d 0 (q_L0 as 3) [] M) none
noncomputable def oX9_floatsLine : QO := fun y => cond (Nat.beq y 131) (mX9_refuse) (cond (Nat.beq y 133) (mX9_advance) (cond (Nat.beq y 155) (mX9_either 80) (fun _ _ => none)))
noncomputable def kX9_floatsLine (pc : Nat) (L : List (Option Value)) (st : List Value) (M : QM) : Option QR := q_D cs_X9_floatsLine oX9_floatsLine (0, 0) (true, pc, L, st, M, 0, 0)
noncomputable def mX9_floatsLine (as : List Value) (M : QM) : Option QR := cond (Nat.ble (q_sl as).length 1) (kX9_floatsLine 0 (q_L0 as 1) [] M) none
noncomputable def oX9_line : QO := fun y => cond (Nat.beq y 131) (mX9_refuse) (cond (Nat.beq y 139) (mX9_takeSign) (cond (Nat.beq y 145) (mX9_deviceLine) (cond (Nat.beq y 146) (mX9_netLine) (cond (Nat.beq y 149) (mX9_shortLine) (cond (Nat.beq y 150) (mX9_openLine) (cond (Nat.beq y 151) (mX9_stuckLine) (cond (Nat.beq y 152) (mX9_noiseLine) (cond (Nat.beq y 153) (mX9_drawLine) (cond (Nat.beq y 154) (mX9_floatsLine) (fun _ _ => none))))))))))
noncomputable def kX9_line (pc : Nat) (L : List (Option Value)) (st : List Value) (M : QM) : Option QR := q_D cs_X9_line oX9_line (0, 0) (true, pc, L, st, M, 0, 0)
noncomputable def mX9_line (as : List Value) (M : QM) : Option QR := cond (Nat.ble (q_sl as).length 1) (kX9_line 0 (q_L0 as 1) [] M) none
noncomputable def oX9_readBoard : QO := fun y => cond (Nat.beq y 11) (mX0_clear) (cond (Nat.beq y 133) (mX9_advance) (cond (Nat.beq y 141) (mX9_line) (fun _ _ => none)))
noncomputable def kX9_readBoard (pc : Nat) (L : List (Option Value)) (st : List Value) (M : QM) : Option QR := q_D cs_X9_readBoard oX9_readBoard (0, 0) (true, pc, L, st, M, 0, 0)
noncomputable def mX9_readBoard (as : List Value) (M : QM) : Option QR := cond (Nat.ble (q_sl as).length 6) (kX9_readBoard 0 (q_L0 as 6) [] M) none
noncomputable def oX10_init : QO := fun y => fun _ _ => none
noncomputable def kX10_init (pc : Nat) (L : List (Option Value)) (st : List Value) (M : QM) (ce sl : Nat) : Option QR := q_D cs_X10_init oX10_init (2, 32) (true, pc, L, st, M, ce, sl)
noncomputable def mX10_init (as : List Value) (M : QM) : Option QR := cond (Nat.ble (q_sl as).length 1) (kX10_init 0 (q_L0 as 1) [] M 0 0) none
noncomputable def oX10_waysThrough : QO := fun y => fun _ _ => none
noncomputable def kX10_waysThrough (pc : Nat) (L : List (Option Value)) (st : List Value) (M : QM) : Option QR := q_D cs_X10_waysThrough oX10_waysThrough (0, 0) (true, pc, L, st, M, 0, 0)
noncomputable def mX10_waysThrough (as : List Value) (M : QM) : Option QR := cond (Nat.ble (q_sl as).length 3) (kX10_waysThrough 0 (q_L0 as 3) [] M) none
noncomputable def oX10_countWays : QO := fun y => cond (Nat.beq y 163) (mX10_next) (cond (Nat.beq y 164) (mX10_measure) (cond (Nat.beq y 167) (mX10_waysThrough) (cond (Nat.beq y 391) (mJ7_fill_53178) (fun _ _ => none))))
noncomputable def kX10_countWays (pc : Nat) (L : List (Option Value)) (st : List Value) (M : QM) : Option QR := q_D cs_X10_countWays oX10_countWays (0, 0) (true, pc, L, st, M, 0, 0)
noncomputable def mX10_countWays (as : List Value) (M : QM) : Option QR := cond (Nat.ble (q_sl as).length 5) (kX10_countWays 0 (q_L0 as 5) [] M) none
noncomputable def oX10_farthestFrom : QO := fun y => cond (Nat.beq y 164) (mX10_measure) (fun _ _ => none)
noncomputable def kX10_farthestFrom (pc : Nat) (L : List (Option Value)) (st : List Value) (M : QM) : Option QR := q_D cs_X10_farthestFrom oX10_farthestFrom (0, 0) (true, pc, L, st, M, 0, 0)
noncomputable def mX10_farthestFrom (as : List Value) (M : QM) : Option QR := cond (Nat.ble (q_sl as).length 4) (kX10_farthestFrom 0 (q_L0 as 4) [] M) none
noncomputable def oX11_init : QO := fun y => cond (Nat.beq y 10) (mX0_init) (cond (Nat.beq y 36) (mX1_init) (cond (Nat.beq y 82) (mX5_init) (cond (Nat.beq y 97) (mX6_init) (cond (Nat.beq y 108) (mX7_init) (cond (Nat.beq y 118) (mX8_init) (cond (Nat.beq y 120) (mX8_forget) (cond (Nat.beq y 129) (mX9_init) (cond (Nat.beq y 162) (mX10_init) (fun _ _ => none)))))))))
noncomputable def kX11_init (pc : Nat) (L : List (Option Value)) (st : List Value) (M : QM) (ce sl : Nat) : Option QR := q_D cs_X11_init oX11_init (62, 4784) (true, pc, L, st, M, ce, sl)
noncomputable def mX11_init (as : List Value) (M : QM) : Option QR := cond (Nat.ble (q_sl as).length 1) (kX11_init 0 (q_L0 as 1) [] M 0 0) none
noncomputable def oX11_putFour : QO := fun y => fun _ _ => none
noncomputable def kX11_putFour (pc : Nat) (L : List (Option Value)) (st : List Value) (M : QM) : Option QR := q_D cs_X11_putFour oX11_putFour (0, 0) (true, pc, L, st, M, 0, 0)
noncomputable def mX11_putFour (as : List Value) (M : QM) : Option QR := cond (Nat.ble (q_sl as).length 3) (kX11_putFour 0 (q_L0 as 3) [] M) none
noncomputable def oX11_feed : QO := fun y => cond (Nat.beq y 171) (mX11_putFour) (fun _ _ => none)
noncomputable def kX11_feed (pc : Nat) (L : List (Option Value)) (st : List Value) (M : QM) : Option QR := q_D cs_X11_feed oX11_feed (0, 0) (true, pc, L, st, M, 0, 0)
noncomputable def mX11_feed (as : List Value) (M : QM) : Option QR := cond (Nat.ble (q_sl as).length 6) (kX11_feed 0 (q_L0 as 6) [] M) none
noncomputable def oX11_end : QO := fun y => fun _ _ => none
noncomputable def kX11_end (pc : Nat) (L : List (Option Value)) (st : List Value) (M : QM) : Option QR := q_D cs_X11_end oX11_end (0, 0) (true, pc, L, st, M, 0, 0)
noncomputable def mX11_end (as : List Value) (M : QM) : Option QR := cond (Nat.ble (q_sl as).length 2) (kX11_end 0 (q_L0 as 2) [] M) none
noncomputable def oX11_board : QO := fun y => cond (Nat.beq y 37) (mX1_begin) (cond (Nat.beq y 98) (mX6_forget) (cond (Nat.beq y 109) (mX7_forget) (cond (Nat.beq y 120) (mX8_forget) (cond (Nat.beq y 126) (mX8_emptyBoxes) (cond (Nat.beq y 130) (mX9_readBoard) (fun _ _ => none))))))
noncomputable def kX11_board (pc : Nat) (L : List (Option Value)) (st : List Value) (M : QM) : Option QR := q_D cs_X11_board oX11_board (0, 0) (true, pc, L, st, M, 0, 0)
noncomputable def mX11_board (as : List Value) (M : QM) : Option QR := cond (Nat.ble (q_sl as).length 2) (kX11_board 0 (q_L0 as 2) [] M) none
noncomputable def oX11_fault : QO := fun y => fun _ _ => none
noncomputable def kX11_fault (pc : Nat) (L : List (Option Value)) (st : List Value) (M : QM) : Option QR := q_D cs_X11_fault oX11_fault (0, 0) (true, pc, L, st, M, 0, 0)
noncomputable def mX11_fault (as : List Value) (M : QM) : Option QR := cond (Nat.ble (q_sl as).length 2) (kX11_fault 0 (q_L0 as 2) [] M) none
noncomputable def oX11_device : QO := fun y => cond (Nat.beq y 12) (mX0_hasDevice) (cond (Nat.beq y 41) (mX1_dataBits) (fun _ _ => none))
noncomputable def kX11_device (pc : Nat) (L : List (Option Value)) (st : List Value) (M : QM) : Option QR := q_D cs_X11_device oX11_device (0, 0) (true, pc, L, st, M, 0, 0)
noncomputable def mX11_device (as : List Value) (M : QM) : Option QR := cond (Nat.ble (q_sl as).length 3) (kX11_device 0 (q_L0 as 3) [] M) none
noncomputable def oX11_net : QO := fun y => cond (Nat.beq y 13) (mX0_hasNet) (cond (Nat.beq y 43) (mX1_driven) (cond (Nat.beq y 44) (mX1_fighting) (cond (Nat.beq y 70) (mX3_hanging) (cond (Nat.beq y 72) (mX3_drives) (cond (Nat.beq y 73) (mX3_levels) (cond (Nat.beq y 389) (mJ6_bitCount_0f7a4) (fun _ _ => none)))))))
noncomputable def kX11_net (pc : Nat) (L : List (Option Value)) (st : List Value) (M : QM) : Option QR := q_D cs_X11_net oX11_net (0, 0) (true, pc, L, st, M, 0, 0)
noncomputable def mX11_net (as : List Value) (M : QM) : Option QR := cond (Nat.ble (q_sl as).length 5) (kX11_net 0 (q_L0 as 5) [] M) none
noncomputable def oX11_cell : QO := fun y => cond (Nat.beq y 14) (mX0_hasCell) (cond (Nat.beq y 46) (mX1_reads) (cond (Nat.beq y 178) (mX11_placeOf) (fun _ _ => none)))
noncomputable def kX11_cell (pc : Nat) (L : List (Option Value)) (st : List Value) (M : QM) : Option QR := q_D cs_X11_cell oX11_cell (0, 0) (true, pc, L, st, M, 0, 0)
noncomputable def mX11_cell (as : List Value) (M : QM) : Option QR := cond (Nat.ble (q_sl as).length 5) (kX11_cell 0 (q_L0 as 5) [] M) none
noncomputable def oX11_isBit : QO := fun y => fun _ _ => none
noncomputable def kX11_isBit (pc : Nat) (L : List (Option Value)) (st : List Value) (M : QM) : Option QR := q_D cs_X11_isBit oX11_isBit (0, 0) (true, pc, L, st, M, 0, 0)
noncomputable def mX11_isBit (as : List Value) (M : QM) : Option QR := cond (Nat.ble (q_sl as).length 1) (kX11_isBit 0 (q_L0 as 1) [] M) none
noncomputable def oX11_clock : QO := fun y => cond (Nat.beq y 47) (mX1_tick) (cond (Nat.beq y 121) (mX8_keep) (cond (Nat.beq y 180) (mX11_isBit) (fun _ _ => none)))
noncomputable def kX11_clock (pc : Nat) (L : List (Option Value)) (st : List Value) (M : QM) : Option QR := q_D cs_X11_clock oX11_clock (0, 0) (true, pc, L, st, M, 0, 0)
noncomputable def mX11_clock (as : List Value) (M : QM) : Option QR := cond (Nat.ble (q_sl as).length 4) (kX11_clock 0 (q_L0 as 4) [] M) none
noncomputable def oX11_scan : QO := fun y => cond (Nat.beq y 56) (mX1_sweep) (cond (Nat.beq y 121) (mX8_keep) (cond (Nat.beq y 180) (mX11_isBit) (fun _ _ => none)))
noncomputable def kX11_scan (pc : Nat) (L : List (Option Value)) (st : List Value) (M : QM) : Option QR := q_D cs_X11_scan oX11_scan (0, 0) (true, pc, L, st, M, 0, 0)
noncomputable def mX11_scan (as : List Value) (M : QM) : Option QR := cond (Nat.ble (q_sl as).length 5) (kX11_scan 0 (q_L0 as 5) [] M) none
noncomputable def oX11_harm : QO := fun y => cond (Nat.beq y 25) (mX0_hasSingle) (cond (Nat.beq y 34) (mX0_isBarred) (cond (Nat.beq y 35) (mX0_turnSingle) (cond (Nat.beq y 67) (mX3_count) (cond (Nat.beq y 121) (mX8_keep) (fun _ _ => none)))))
noncomputable def kX11_harm (pc : Nat) (L : List (Option Value)) (st : List Value) (M : QM) : Option QR := q_D cs_X11_harm oX11_harm (0, 0) (true, pc, L, st, M, 0, 0)
noncomputable def mX11_harm (as : List Value) (M : QM) : Option QR := cond (Nat.ble (q_sl as).length 2) (kX11_harm 0 (q_L0 as 2) [] M) none
noncomputable def oX11_undo : QO := fun y => cond (Nat.beq y 122) (mX8_goBack) (fun _ _ => none)
noncomputable def kX11_undo (pc : Nat) (L : List (Option Value)) (st : List Value) (M : QM) : Option QR := q_D cs_X11_undo oX11_undo (0, 0) (true, pc, L, st, M, 0, 0)
noncomputable def mX11_undo (as : List Value) (M : QM) : Option QR := cond (Nat.ble (q_sl as).length 1) (kX11_undo 0 (q_L0 as 1) [] M) none
noncomputable def oX11_redo : QO := fun y => cond (Nat.beq y 123) (mX8_goOn) (fun _ _ => none)
noncomputable def kX11_redo (pc : Nat) (L : List (Option Value)) (st : List Value) (M : QM) : Option QR := q_D cs_X11_redo oX11_redo (0, 0) (true, pc, L, st, M, 0, 0)
noncomputable def mX11_redo (as : List Value) (M : QM) : Option QR := cond (Nat.ble (q_sl as).length 1) (kX11_redo 0 (q_L0 as 1) [] M) none
noncomputable def oX11_goes : QO := fun y => cond (Nat.beq y 163) (mX10_next) (fun _ _ => none)
noncomputable def kX11_goes (pc : Nat) (L : List (Option Value)) (st : List Value) (M : QM) : Option QR := q_D cs_X11_goes oX11_goes (0, 0) (true, pc, L, st, M, 0, 0)
noncomputable def mX11_goes (as : List Value) (M : QM) : Option QR := cond (Nat.ble (q_sl as).length 5) (kX11_goes 0 (q_L0 as 5) [] M) none
noncomputable def oX11_isState : QO := fun y => fun _ _ => none
noncomputable def kX11_isState (pc : Nat) (L : List (Option Value)) (st : List Value) (M : QM) : Option QR := q_D cs_X11_isState oX11_isState (0, 0) (true, pc, L, st, M, 0, 0)
noncomputable def mX11_isState (as : List Value) (M : QM) : Option QR := cond (Nat.ble (q_sl as).length 1) (kX11_isState 0 (q_L0 as 1) [] M) none
noncomputable def oX11_walk : QO := fun y => cond (Nat.beq y 165) (mX10_lead) (cond (Nat.beq y 187) (mX11_isState) (fun _ _ => none))
noncomputable def kX11_walk (pc : Nat) (L : List (Option Value)) (st : List Value) (M : QM) : Option QR := q_D cs_X11_walk oX11_walk (0, 0) (true, pc, L, st, M, 0, 0)
noncomputable def mX11_walk (as : List Value) (M : QM) : Option QR := cond (Nat.ble (q_sl as).length 3) (kX11_walk 0 (q_L0 as 3) [] M) none
noncomputable def oX11_walks : QO := fun y => cond (Nat.beq y 166) (mX10_countWays) (cond (Nat.beq y 187) (mX11_isState) (fun _ _ => none))
noncomputable def kX11_walks (pc : Nat) (L : List (Option Value)) (st : List Value) (M : QM) : Option QR := q_D cs_X11_walks oX11_walks (0, 0) (true, pc, L, st, M, 0, 0)
noncomputable def mX11_walks (as : List Value) (M : QM) : Option QR := cond (Nat.ble (q_sl as).length 3) (kX11_walks 0 (q_L0 as 3) [] M) none
noncomputable def oX11_farthest : QO := fun y => cond (Nat.beq y 168) (mX10_farthestFrom) (cond (Nat.beq y 187) (mX11_isState) (fun _ _ => none))
noncomputable def kX11_farthest (pc : Nat) (L : List (Option Value)) (st : List Value) (M : QM) : Option QR := q_D cs_X11_farthest oX11_farthest (0, 0) (true, pc, L, st, M, 0, 0)
noncomputable def mX11_farthest (as : List Value) (M : QM) : Option QR := cond (Nat.ble (q_sl as).length 2) (kX11_farthest 0 (q_L0 as 2) [] M) none
noncomputable def oX11_length : QO := fun y => cond (Nat.beq y 41) (mX1_dataBits) (cond (Nat.beq y 180) (mX11_isBit) (fun _ _ => none))
noncomputable def kX11_length (pc : Nat) (L : List (Option Value)) (st : List Value) (M : QM) : Option QR := q_D cs_X11_length oX11_length (0, 0) (true, pc, L, st, M, 0, 0)
noncomputable def mX11_length (as : List Value) (M : QM) : Option QR := cond (Nat.ble (q_sl as).length 4) (kX11_length 0 (q_L0 as 4) [] M) none
noncomputable def oX11_found : QO := fun y => fun _ _ => none
noncomputable def kX11_found (pc : Nat) (L : List (Option Value)) (st : List Value) (M : QM) : Option QR := q_D cs_X11_found oX11_found (0, 0) (true, pc, L, st, M, 0, 0)
noncomputable def mX11_found (as : List Value) (M : QM) : Option QR := cond (Nat.ble (q_sl as).length 3) (kX11_found 0 (q_L0 as 3) [] M) none
noncomputable def oX11_fights : QO := fun y => cond (Nat.beq y 44) (mX1_fighting) (fun _ _ => none)
noncomputable def kX11_fights (pc : Nat) (L : List (Option Value)) (st : List Value) (M : QM) : Option QR := q_D cs_X11_fights oX11_fights (0, 0) (true, pc, L, st, M, 0, 0)
noncomputable def mX11_fights (as : List Value) (M : QM) : Option QR := cond (Nat.ble (q_sl as).length 1) (kX11_fights 0 (q_L0 as 1) [] M) none
noncomputable def oX11_unsafe : QO := fun y => cond (Nat.beq y 18) (mX0_unsafeAt) (cond (Nat.beq y 43) (mX1_driven) (cond (Nat.beq y 73) (mX3_levels) (fun _ _ => none)))
noncomputable def kX11_unsafe (pc : Nat) (L : List (Option Value)) (st : List Value) (M : QM) : Option QR := q_D cs_X11_unsafe oX11_unsafe (0, 0) (true, pc, L, st, M, 0, 0)
noncomputable def mX11_unsafe (as : List Value) (M : QM) : Option QR := cond (Nat.ble (q_sl as).length 1) (kX11_unsafe 0 (q_L0 as 1) [] M) none
noncomputable def oX11_isKind : QO := fun y => fun _ _ => none
noncomputable def kX11_isKind (pc : Nat) (L : List (Option Value)) (st : List Value) (M : QM) : Option QR := q_D cs_X11_isKind oX11_isKind (0, 0) (true, pc, L, st, M, 0, 0)
noncomputable def mX11_isKind (as : List Value) (M : QM) : Option QR := cond (Nat.ble (q_sl as).length 1) (kX11_isKind 0 (q_L0 as 1) [] M) none
noncomputable def oX11_steps : QO := fun y => cond (Nat.beq y 60) (mX2_stepCount) (cond (Nat.beq y 194) (mX11_isKind) (fun _ _ => none))
noncomputable def kX11_steps (pc : Nat) (L : List (Option Value)) (st : List Value) (M : QM) : Option QR := q_D cs_X11_steps oX11_steps (0, 0) (true, pc, L, st, M, 0, 0)
noncomputable def mX11_steps (as : List Value) (M : QM) : Option QR := cond (Nat.ble (q_sl as).length 2) (kX11_steps 0 (q_L0 as 2) [] M) none
noncomputable def oX11_tells : QO := fun y => cond (Nat.beq y 13) (mX0_hasNet) (cond (Nat.beq y 63) (mX2_stepsOf) (cond (Nat.beq y 194) (mX11_isKind) (fun _ _ => none)))
noncomputable def kX11_tells (pc : Nat) (L : List (Option Value)) (st : List Value) (M : QM) : Option QR := q_D cs_X11_tells oX11_tells (0, 0) (true, pc, L, st, M, 0, 0)
noncomputable def mX11_tells (as : List Value) (M : QM) : Option QR := cond (Nat.ble (q_sl as).length 3) (kX11_tells 0 (q_L0 as 3) [] M) none
noncomputable def oX11_judged : QO := fun y => cond (Nat.beq y 45) (mX1_floating) (cond (Nat.beq y 83) (mX5_look) (fun _ _ => none))
noncomputable def kX11_judged (pc : Nat) (L : List (Option Value)) (st : List Value) (M : QM) : Option QR := q_D cs_X11_judged oX11_judged (0, 0) (true, pc, L, st, M, 0, 0)
noncomputable def mX11_judged (as : List Value) (M : QM) : Option QR := cond (Nat.ble (q_sl as).length 2) (kX11_judged 0 (q_L0 as 2) [] M) none
noncomputable def oX11_answer : QO := fun y => cond (Nat.beq y 15) (mX0_hasReceiver) (cond (Nat.beq y 85) (mX5_answerAt) (cond (Nat.beq y 178) (mX11_placeOf) (cond (Nat.beq y 194) (mX11_isKind) (cond (Nat.beq y 197) (mX11_judged) (fun _ _ => none)))))
noncomputable def kX11_answer (pc : Nat) (L : List (Option Value)) (st : List Value) (M : QM) : Option QR := q_D cs_X11_answer oX11_answer (0, 0) (true, pc, L, st, M, 0, 0)
noncomputable def mX11_answer (as : List Value) (M : QM) : Option QR := cond (Nat.ble (q_sl as).length 4) (kX11_answer 0 (q_L0 as 4) [] M) none
noncomputable def oX11_good : QO := fun y => cond (Nat.beq y 84) (mX5_goodCount) (cond (Nat.beq y 194) (mX11_isKind) (cond (Nat.beq y 197) (mX11_judged) (fun _ _ => none)))
noncomputable def kX11_good (pc : Nat) (L : List (Option Value)) (st : List Value) (M : QM) : Option QR := q_D cs_X11_good oX11_good (0, 0) (true, pc, L, st, M, 0, 0)
noncomputable def mX11_good (as : List Value) (M : QM) : Option QR := cond (Nat.ble (q_sl as).length 2) (kX11_good 0 (q_L0 as 2) [] M) none
noncomputable def oX11_aliased : QO := fun y => cond (Nat.beq y 87) (mX5_aliasedNets) (cond (Nat.beq y 194) (mX11_isKind) (cond (Nat.beq y 197) (mX11_judged) (fun _ _ => none)))
noncomputable def kX11_aliased (pc : Nat) (L : List (Option Value)) (st : List Value) (M : QM) : Option QR := q_D cs_X11_aliased oX11_aliased (0, 0) (true, pc, L, st, M, 0, 0)
noncomputable def mX11_aliased (as : List Value) (M : QM) : Option QR := cond (Nat.ble (q_sl as).length 2) (kX11_aliased 0 (q_L0 as 2) [] M) none
noncomputable def oX11_confounded : QO := fun y => cond (Nat.beq y 13) (mX0_hasNet) (cond (Nat.beq y 90) (mX5_confoundedWith) (cond (Nat.beq y 194) (mX11_isKind) (cond (Nat.beq y 197) (mX11_judged) (fun _ _ => none))))
noncomputable def kX11_confounded (pc : Nat) (L : List (Option Value)) (st : List Value) (M : QM) : Option QR := q_D cs_X11_confounded oX11_confounded (0, 0) (true, pc, L, st, M, 0, 0)
noncomputable def mX11_confounded (as : List Value) (M : QM) : Option QR := cond (Nat.ble (q_sl as).length 3) (kX11_confounded 0 (q_L0 as 3) [] M) none
noncomputable def oX11_verdict : QO := fun y => cond (Nat.beq y 13) (mX0_hasNet) (cond (Nat.beq y 92) (mX5_verdictOf) (cond (Nat.beq y 194) (mX11_isKind) (cond (Nat.beq y 197) (mX11_judged) (fun _ _ => none))))
noncomputable def kX11_verdict (pc : Nat) (L : List (Option Value)) (st : List Value) (M : QM) : Option QR := q_D cs_X11_verdict oX11_verdict (0, 0) (true, pc, L, st, M, 0, 0)
noncomputable def mX11_verdict (as : List Value) (M : QM) : Option QR := cond (Nat.ble (q_sl as).length 3) (kX11_verdict 0 (q_L0 as 3) [] M) none
noncomputable def oX11_singles : QO := fun y => cond (Nat.beq y 22) (mX0_singleCount) (fun _ _ => none)
noncomputable def kX11_singles (pc : Nat) (L : List (Option Value)) (st : List Value) (M : QM) : Option QR := q_D cs_X11_singles oX11_singles (0, 0) (true, pc, L, st, M, 0, 0)
noncomputable def mX11_singles (as : List Value) (M : QM) : Option QR := cond (Nat.ble (q_sl as).length 1) (kX11_singles 0 (q_L0 as 1) [] M) none
noncomputable def oX11_single : QO := fun y => cond (Nat.beq y 25) (mX0_hasSingle) (cond (Nat.beq y 26) (mX0_sortOf) (cond (Nat.beq y 31) (mX0_firstOf) (cond (Nat.beq y 32) (mX0_secondOf) (cond (Nat.beq y 33) (mX0_isThere) (fun _ _ => none)))))
noncomputable def kX11_single (pc : Nat) (L : List (Option Value)) (st : List Value) (M : QM) : Option QR := q_D cs_X11_single oX11_single (0, 0) (true, pc, L, st, M, 0, 0)
noncomputable def mX11_single (as : List Value) (M : QM) : Option QR := cond (Nat.ble (q_sl as).length 3) (kX11_single 0 (q_L0 as 3) [] M) none
noncomputable def oX11_prepared : QO := fun y => cond (Nat.beq y 99) (mX6_prepare) (fun _ _ => none)
noncomputable def kX11_prepared (pc : Nat) (L : List (Option Value)) (st : List Value) (M : QM) : Option QR := q_D cs_X11_prepared oX11_prepared (0, 0) (true, pc, L, st, M, 0, 0)
noncomputable def mX11_prepared (as : List Value) (M : QM) : Option QR := cond (Nat.ble (q_sl as).length 1) (kX11_prepared 0 (q_L0 as 1) [] M) none
noncomputable def oX11_isSingleOrNone : QO := fun y => cond (Nat.beq y 25) (mX0_hasSingle) (fun _ _ => none)
noncomputable def kX11_isSingleOrNone (pc : Nat) (L : List (Option Value)) (st : List Value) (M : QM) : Option QR := q_D cs_X11_isSingleOrNone oX11_isSingleOrNone (0, 0) (true, pc, L, st, M, 0, 0)
noncomputable def mX11_isSingleOrNone (as : List Value) (M : QM) : Option QR := cond (Nat.ble (q_sl as).length 2) (kX11_isSingleOrNone 0 (q_L0 as 2) [] M) none
noncomputable def oX11_apart : QO := fun y => cond (Nat.beq y 103) (mX6_parts) (cond (Nat.beq y 194) (mX11_isKind) (cond (Nat.beq y 206) (mX11_prepared) (cond (Nat.beq y 207) (mX11_isSingleOrNone) (fun _ _ => none))))
noncomputable def kX11_apart (pc : Nat) (L : List (Option Value)) (st : List Value) (M : QM) : Option QR := q_D cs_X11_apart oX11_apart (0, 0) (true, pc, L, st, M, 0, 0)
noncomputable def mX11_apart (as : List Value) (M : QM) : Option QR := cond (Nat.ble (q_sl as).length 4) (kX11_apart 0 (q_L0 as 4) [] M) none
noncomputable def oX11_told : QO := fun y => cond (Nat.beq y 104) (mX6_countFromNone) (cond (Nat.beq y 105) (mX6_countFromAll) (cond (Nat.beq y 180) (mX11_isBit) (cond (Nat.beq y 194) (mX11_isKind) (cond (Nat.beq y 206) (mX11_prepared) (fun _ _ => none)))))
noncomputable def kX11_told (pc : Nat) (L : List (Option Value)) (st : List Value) (M : QM) : Option QR := q_D cs_X11_told oX11_told (0, 0) (true, pc, L, st, M, 0, 0)
noncomputable def mX11_told (as : List Value) (M : QM) : Option QR := cond (Nat.ble (q_sl as).length 3) (kX11_told 0 (q_L0 as 3) [] M) none
noncomputable def oX11_least : QO := fun y => cond (Nat.beq y 107) (mX6_leastKind) (cond (Nat.beq y 206) (mX11_prepared) (fun _ _ => none))
noncomputable def kX11_least (pc : Nat) (L : List (Option Value)) (st : List Value) (M : QM) : Option QR := q_D cs_X11_least oX11_least (0, 0) (true, pc, L, st, M, 0, 0)
noncomputable def mX11_least (as : List Value) (M : QM) : Option QR := cond (Nat.ble (q_sl as).length 1) (kX11_least 0 (q_L0 as 1) [] M) none
noncomputable def oX11_mendFirst : QO := fun y => cond (Nat.beq y 45) (mX1_floating) (cond (Nat.beq y 95) (mX5_bestMended) (cond (Nat.beq y 180) (mX11_isBit) (fun _ _ => none)))
noncomputable def kX11_mendFirst (pc : Nat) (L : List (Option Value)) (st : List Value) (M : QM) : Option QR := q_D cs_X11_mendFirst oX11_mendFirst (0, 0) (true, pc, L, st, M, 0, 0)
noncomputable def mX11_mendFirst (as : List Value) (M : QM) : Option QR := cond (Nat.ble (q_sl as).length 3) (kX11_mendFirst 0 (q_L0 as 3) [] M) none
noncomputable def oX11_safest : QO := fun y => cond (Nat.beq y 45) (mX1_floating) (cond (Nat.beq y 96) (mX5_safestPattern) (cond (Nat.beq y 180) (mX11_isBit) (fun _ _ => none)))
noncomputable def kX11_safest (pc : Nat) (L : List (Option Value)) (st : List Value) (M : QM) : Option QR := q_D cs_X11_safest oX11_safest (0, 0) (true, pc, L, st, M, 0, 0)
noncomputable def mX11_safest (as : List Value) (M : QM) : Option QR := cond (Nat.ble (q_sl as).length 3) (kX11_safest 0 (q_L0 as 3) [] M) none
noncomputable def oX11_cost : QO := fun y => cond (Nat.beq y 60) (mX2_stepCount) (cond (Nat.beq y 194) (mX11_isKind) (fun _ _ => none))
noncomputable def kX11_cost (pc : Nat) (L : List (Option Value)) (st : List Value) (M : QM) : Option QR := q_D cs_X11_cost oX11_cost (0, 0) (true, pc, L, st, M, 0, 0)
noncomputable def mX11_cost (as : List Value) (M : QM) : Option QR := cond (Nat.ble (q_sl as).length 5) (kX11_cost 0 (q_L0 as 5) [] M) none
noncomputable def oX11_worst : QO := fun y => cond (Nat.beq y 94) (mX5_worstNet) (cond (Nat.beq y 197) (mX11_judged) (fun _ _ => none))
noncomputable def kX11_worst (pc : Nat) (L : List (Option Value)) (st : List Value) (M : QM) : Option QR := q_D cs_X11_worst oX11_worst (0, 0) (true, pc, L, st, M, 0, 0)
noncomputable def mX11_worst (as : List Value) (M : QM) : Option QR := cond (Nat.ble (q_sl as).length 1) (kX11_worst 0 (q_L0 as 1) [] M) none
noncomputable def oX11_law : QO := fun y => cond (Nat.beq y 83) (mX5_look) (cond (Nat.beq y 84) (mX5_goodCount) (cond (Nat.beq y 180) (mX11_isBit) (fun _ _ => none)))
noncomputable def kX11_law (pc : Nat) (L : List (Option Value)) (st : List Value) (M : QM) : Option QR := q_D cs_X11_law oX11_law (0, 0) (true, pc, L, st, M, 0, 0)
noncomputable def mX11_law (as : List Value) (M : QM) : Option QR := cond (Nat.ble (q_sl as).length 2) (kX11_law 0 (q_L0 as 2) [] M) none
noncomputable def oX11_commonDivisor : QO := fun y => fun _ _ => none
noncomputable def kX11_commonDivisor (pc : Nat) (L : List (Option Value)) (st : List Value) (M : QM) : Option QR := q_D cs_X11_commonDivisor oX11_commonDivisor (0, 0) (true, pc, L, st, M, 0, 0)
noncomputable def mX11_commonDivisor (as : List Value) (M : QM) : Option QR := cond (Nat.ble (q_sl as).length 4) (kX11_commonDivisor 0 (q_L0 as 4) [] M) none
noncomputable def oX11_odds : QO := fun y => cond (Nat.beq y 180) (mX11_isBit) (cond (Nat.beq y 216) (mX11_commonDivisor) (fun _ _ => none))
noncomputable def kX11_odds (pc : Nat) (L : List (Option Value)) (st : List Value) (M : QM) : Option QR := q_D cs_X11_odds oX11_odds (0, 0) (true, pc, L, st, M, 0, 0)
noncomputable def mX11_odds (as : List Value) (M : QM) : Option QR := cond (Nat.ble (q_sl as).length 6) (kX11_odds 0 (q_L0 as 6) [] M) none
noncomputable def oX11_lies : QO := fun y => fun _ _ => none
noncomputable def kX11_lies (pc : Nat) (L : List (Option Value)) (st : List Value) (M : QM) : Option QR := q_D cs_X11_lies oX11_lies (0, 0) (true, pc, L, st, M, 0, 0)
noncomputable def mX11_lies (as : List Value) (M : QM) : Option QR := cond (Nat.ble (q_sl as).length 2) (kX11_lies 0 (q_L0 as 2) [] M) none
noncomputable def oX11_seen : QO := fun y => cond (Nat.beq y 15) (mX0_hasReceiver) (cond (Nat.beq y 60) (mX2_stepCount) (cond (Nat.beq y 110) (mX7_write) (cond (Nat.beq y 178) (mX11_placeOf) (cond (Nat.beq y 194) (mX11_isKind) (fun _ _ => none)))))
noncomputable def kX11_seen (pc : Nat) (L : List (Option Value)) (st : List Value) (M : QM) : Option QR := q_D cs_X11_seen oX11_seen (0, 0) (true, pc, L, st, M, 0, 0)
noncomputable def mX11_seen (as : List Value) (M : QM) : Option QR := cond (Nat.ble (q_sl as).length 6) (kX11_seen 0 (q_L0 as 6) [] M) none
noncomputable def oX11_untell : QO := fun y => cond (Nat.beq y 111) (mX7_strike) (fun _ _ => none)
noncomputable def kX11_untell (pc : Nat) (L : List (Option Value)) (st : List Value) (M : QM) : Option QR := q_D cs_X11_untell oX11_untell (0, 0) (true, pc, L, st, M, 0, 0)
noncomputable def mX11_untell (as : List Value) (M : QM) : Option QR := cond (Nat.ble (q_sl as).length 2) (kX11_untell 0 (q_L0 as 2) [] M) none
noncomputable def oX11_later : QO := fun y => fun _ _ => none
noncomputable def kX11_later (pc : Nat) (L : List (Option Value)) (st : List Value) (M : QM) : Option QR := q_D cs_X11_later oX11_later (0, 0) (true, pc, L, st, M, 0, 0)
noncomputable def mX11_later (as : List Value) (M : QM) : Option QR := cond (Nat.ble (q_sl as).length 2) (kX11_later 0 (q_L0 as 2) [] M) none
noncomputable def oJ13_bitCount_95d88 : QO := fun y => fun _ _ => none
noncomputable def kJ13_bitCount_95d88 (pc : Nat) (L : List (Option Value)) (st : List Value) (M : QM) : Option QR := q_D cs_J13_bitCount_95d88 oJ13_bitCount_95d88 (0, 0) (true, pc, L, st, M, 0, 0)
noncomputable def mJ13_bitCount_95d88 (as : List Value) (M : QM) : Option QR := cond (Nat.ble (q_sl as).length 2) (kJ13_bitCount_95d88 0 (q_L0 as 2) [] M) none
noncomputable def oX11_fits : QO := fun y => cond (Nat.beq y 113) (mX7_fitting) (cond (Nat.beq y 206) (mX11_prepared) (cond (Nat.beq y 390) (mJ13_bitCount_95d88) (fun _ _ => none)))
noncomputable def kX11_fits (pc : Nat) (L : List (Option Value)) (st : List Value) (M : QM) : Option QR := q_D cs_X11_fits oX11_fits (0, 0) (true, pc, L, st, M, 0, 0)
noncomputable def mX11_fits (as : List Value) (M : QM) : Option QR := cond (Nat.ble (q_sl as).length 2) (kX11_fits 0 (q_L0 as 2) [] M) none
noncomputable def oX11_culprit : QO := fun y => cond (Nat.beq y 115) (mX7_fittingAt) (cond (Nat.beq y 206) (mX11_prepared) (fun _ _ => none))
noncomputable def kX11_culprit (pc : Nat) (L : List (Option Value)) (st : List Value) (M : QM) : Option QR := q_D cs_X11_culprit oX11_culprit (0, 0) (true, pc, L, st, M, 0, 0)
noncomputable def mX11_culprit (as : List Value) (M : QM) : Option QR := cond (Nat.ble (q_sl as).length 3) (kX11_culprit 0 (q_L0 as 3) [] M) none
noncomputable def oX11_ask : QO := fun y => cond (Nat.beq y 116) (mX7_bestStep) (cond (Nat.beq y 180) (mX11_isBit) (cond (Nat.beq y 194) (mX11_isKind) (cond (Nat.beq y 206) (mX11_prepared) (fun _ _ => none))))
noncomputable def kX11_ask (pc : Nat) (L : List (Option Value)) (st : List Value) (M : QM) : Option QR := q_D cs_X11_ask oX11_ask (0, 0) (true, pc, L, st, M, 0, 0)
noncomputable def mX11_ask (as : List Value) (M : QM) : Option QR := cond (Nat.ble (q_sl as).length 5) (kX11_ask 0 (q_L0 as 5) [] M) none
noncomputable def oX11_image : QO := fun y => cond (Nat.beq y 127) (mX8_putInBox) (fun _ _ => none)
noncomputable def kX11_image (pc : Nat) (L : List (Option Value)) (st : List Value) (M : QM) : Option QR := q_D cs_X11_image oX11_image (0, 0) (true, pc, L, st, M, 0, 0)
noncomputable def mX11_image (as : List Value) (M : QM) : Option QR := cond (Nat.ble (q_sl as).length 2) (kX11_image 0 (q_L0 as 2) [] M) none
noncomputable def oX11_back : QO := fun y => cond (Nat.beq y 120) (mX8_forget) (cond (Nat.beq y 128) (mX8_takeFromBox) (fun _ _ => none))
noncomputable def kX11_back (pc : Nat) (L : List (Option Value)) (st : List Value) (M : QM) : Option QR := q_D cs_X11_back oX11_back (0, 0) (true, pc, L, st, M, 0, 0)
noncomputable def mX11_back (as : List Value) (M : QM) : Option QR := cond (Nat.ble (q_sl as).length 2) (kX11_back 0 (q_L0 as 2) [] M) none
noncomputable def oX11_about : QO := fun y => cond (Nat.beq y 67) (mX3_count) (cond (Nat.beq y 124) (mX8_undoable) (cond (Nat.beq y 125) (mX8_redoable) (fun _ _ => none)))
noncomputable def kX11_about (pc : Nat) (L : List (Option Value)) (st : List Value) (M : QM) : Option QR := q_D cs_X11_about oX11_about (0, 0) (true, pc, L, st, M, 0, 0)
noncomputable def mX11_about (as : List Value) (M : QM) : Option QR := cond (Nat.ble (q_sl as).length 2) (kX11_about 0 (q_L0 as 2) [] M) none
noncomputable def oX12_restOrder : QO := fun y => fun _ _ => none
noncomputable def kX12_restOrder (pc : Nat) (L : List (Option Value)) (st : List Value) (M : QM) : Option QR := q_D cs_X12_restOrder oX12_restOrder (0, 0) (true, pc, L, st, M, 0, 0)
noncomputable def mX12_restOrder (as : List Value) (M : QM) : Option QR := cond (Nat.ble (q_sl as).length 2) (kX12_restOrder 0 (q_L0 as 2) [] M) none
noncomputable def oX12_layTold : QO := fun y => cond (Nat.beq y 282) (mX12_restOrder) (fun _ _ => none)
noncomputable def kX12_layTold (pc : Nat) (L : List (Option Value)) (st : List Value) (M : QM) : Option QR := q_D cs_X12_layTold oX12_layTold (0, 0) (true, pc, L, st, M, 0, 0)
noncomputable def mX12_layTold (as : List Value) (M : QM) : Option QR := cond (Nat.ble (q_sl as).length 2) (kX12_layTold 0 (q_L0 as 2) [] M) none
noncomputable def oX12_nextState : QO := fun y => fun _ _ => none
noncomputable def kX12_nextState (pc : Nat) (L : List (Option Value)) (st : List Value) (M : QM) : Option QR := q_D cs_X12_nextState oX12_nextState (0, 0) (true, pc, L, st, M, 0, 0)
noncomputable def mX12_nextState (as : List Value) (M : QM) : Option QR := cond (Nat.ble (q_sl as).length 3) (kX12_nextState 0 (q_L0 as 3) [] M) none
noncomputable def oX12_layWalks : QO := fun y => cond (Nat.beq y 286) (mX12_nextState) (fun _ _ => none)
noncomputable def kX12_layWalks (pc : Nat) (L : List (Option Value)) (st : List Value) (M : QM) : Option QR := q_D cs_X12_layWalks oX12_layWalks (0, 0) (true, pc, L, st, M, 0, 0)
noncomputable def mX12_layWalks (as : List Value) (M : QM) : Option QR := cond (Nat.ble (q_sl as).length 7) (kX12_layWalks 0 (q_L0 as 7) [] M) none
noncomputable def oX12_init : QO := fun y => cond (Nat.beq y 283) (mX12_layTold) (cond (Nat.beq y 287) (mX12_layWalks) (fun _ _ => none))
noncomputable def kX12_init (pc : Nat) (L : List (Option Value)) (st : List Value) (M : QM) (ce sl : Nat) : Option QR := q_D cs_X12_init oX12_init (49, 8345) (true, pc, L, st, M, ce, sl)
noncomputable def mX12_init (as : List Value) (M : QM) : Option QR := cond (Nat.ble (q_sl as).length 1) (kX12_init 0 (q_L0 as 1) [] M 0 0) none
noncomputable def oX12_four : QO := fun y => fun _ _ => none
noncomputable def kX12_four (pc : Nat) (L : List (Option Value)) (st : List Value) (M : QM) : Option QR := q_D cs_X12_four oX12_four (0, 0) (true, pc, L, st, M, 0, 0)
noncomputable def mX12_four (as : List Value) (M : QM) : Option QR := cond (Nat.ble (q_sl as).length 3) (kX12_four 0 (q_L0 as 3) [] M) none
noncomputable def oX12_feed : QO := fun y => cond (Nat.beq y 229) (mX12_four) (fun _ _ => none)
noncomputable def kX12_feed (pc : Nat) (L : List (Option Value)) (st : List Value) (M : QM) : Option QR := q_D cs_X12_feed oX12_feed (0, 0) (true, pc, L, st, M, 0, 0)
noncomputable def mX12_feed (as : List Value) (M : QM) : Option QR := cond (Nat.ble (q_sl as).length 6) (kX12_feed 0 (q_L0 as 6) [] M) none
noncomputable def oX12_end : QO := fun y => fun _ _ => none
noncomputable def kX12_end (pc : Nat) (L : List (Option Value)) (st : List Value) (M : QM) : Option QR := q_D cs_X12_end oX12_end (0, 0) (true, pc, L, st, M, 0, 0)
noncomputable def mX12_end (as : List Value) (M : QM) : Option QR := cond (Nat.ble (q_sl as).length 2) (kX12_end 0 (q_L0 as 2) [] M) none
noncomputable def oX12_here : QO := fun y => fun _ _ => none
noncomputable def kX12_here (pc : Nat) (L : List (Option Value)) (st : List Value) (M : QM) : Option QR := q_D cs_X12_here oX12_here (0, 0) (true, pc, L, st, M, 0, 0)
noncomputable def mX12_here (as : List Value) (M : QM) : Option QR := cond (Nat.ble (q_sl as).length 2) (kX12_here 0 (q_L0 as 2) [] M) none
noncomputable def oX12_isLetter : QO := fun y => fun _ _ => none
noncomputable def kX12_isLetter (pc : Nat) (L : List (Option Value)) (st : List Value) (M : QM) : Option QR := q_D cs_X12_isLetter oX12_isLetter (0, 0) (true, pc, L, st, M, 0, 0)
noncomputable def mX12_isLetter (as : List Value) (M : QM) : Option QR := cond (Nat.ble (q_sl as).length 1) (kX12_isLetter 0 (q_L0 as 1) [] M) none
noncomputable def oX12_isDigit : QO := fun y => fun _ _ => none
noncomputable def kX12_isDigit (pc : Nat) (L : List (Option Value)) (st : List Value) (M : QM) : Option QR := q_D cs_X12_isDigit oX12_isDigit (0, 0) (true, pc, L, st, M, 0, 0)
noncomputable def mX12_isDigit (as : List Value) (M : QM) : Option QR := cond (Nat.ble (q_sl as).length 1) (kX12_isDigit 0 (q_L0 as 1) [] M) none
noncomputable def oX12_isSign : QO := fun y => fun _ _ => none
noncomputable def kX12_isSign (pc : Nat) (L : List (Option Value)) (st : List Value) (M : QM) : Option QR := q_D cs_X12_isSign oX12_isSign (0, 0) (true, pc, L, st, M, 0, 0)
noncomputable def mX12_isSign (as : List Value) (M : QM) : Option QR := cond (Nat.ble (q_sl as).length 1) (kX12_isSign 0 (q_L0 as 1) [] M) none
noncomputable def oX12_token : QO := fun y => cond (Nat.beq y 231) (mX12_here) (cond (Nat.beq y 232) (mX12_isLetter) (cond (Nat.beq y 233) (mX12_isDigit) (cond (Nat.beq y 234) (mX12_isSign) (fun _ _ => none))))
noncomputable def kX12_token (pc : Nat) (L : List (Option Value)) (st : List Value) (M : QM) : Option QR := q_D cs_X12_token oX12_token (0, 0) (true, pc, L, st, M, 0, 0)
noncomputable def mX12_token (as : List Value) (M : QM) : Option QR := cond (Nat.ble (q_sl as).length 3) (kX12_token 0 (q_L0 as 3) [] M) none
noncomputable def oX12_wrong : QO := fun y => fun _ _ => none
noncomputable def kX12_wrong (pc : Nat) (L : List (Option Value)) (st : List Value) (M : QM) : Option QR := q_D cs_X12_wrong oX12_wrong (0, 0) (true, pc, L, st, M, 0, 0)
noncomputable def mX12_wrong (as : List Value) (M : QM) : Option QR := cond (Nat.ble (q_sl as).length 2) (kX12_wrong 0 (q_L0 as 2) [] M) none
noncomputable def oX12_isWord : QO := fun y => fun _ _ => none
noncomputable def kX12_isWord (pc : Nat) (L : List (Option Value)) (st : List Value) (M : QM) : Option QR := q_D cs_X12_isWord oX12_isWord (0, 0) (true, pc, L, st, M, 0, 0)
noncomputable def mX12_isWord (as : List Value) (M : QM) : Option QR := cond (Nat.ble (q_sl as).length 3) (kX12_isWord 0 (q_L0 as 3) [] M) none
noncomputable def oX12_isOwn : QO := fun y => fun _ _ => none
noncomputable def kX12_isOwn (pc : Nat) (L : List (Option Value)) (st : List Value) (M : QM) : Option QR := q_D cs_X12_isOwn oX12_isOwn (0, 0) (true, pc, L, st, M, 0, 0)
noncomputable def mX12_isOwn (as : List Value) (M : QM) : Option QR := cond (Nat.ble (q_sl as).length 1) (kX12_isOwn 0 (q_L0 as 1) [] M) none
noncomputable def oX12_isName : QO := fun y => cond (Nat.beq y 238) (mX12_isOwn) (fun _ _ => none)
noncomputable def kX12_isName (pc : Nat) (L : List (Option Value)) (st : List Value) (M : QM) : Option QR := q_D cs_X12_isName oX12_isName (0, 0) (true, pc, L, st, M, 0, 0)
noncomputable def mX12_isName (as : List Value) (M : QM) : Option QR := cond (Nat.ble (q_sl as).length 1) (kX12_isName 0 (q_L0 as 1) [] M) none
noncomputable def oX12_want : QO := fun y => cond (Nat.beq y 235) (mX12_token) (cond (Nat.beq y 236) (mX12_wrong) (cond (Nat.beq y 237) (mX12_isWord) (fun _ _ => none)))
noncomputable def kX12_want (pc : Nat) (L : List (Option Value)) (st : List Value) (M : QM) : Option QR := q_D cs_X12_want oX12_want (0, 0) (true, pc, L, st, M, 0, 0)
noncomputable def mX12_want (as : List Value) (M : QM) : Option QR := cond (Nat.ble (q_sl as).length 3) (kX12_want 0 (q_L0 as 3) [] M) none
noncomputable def oX12_numberHere : QO := fun y => cond (Nat.beq y 236) (mX12_wrong) (fun _ _ => none)
noncomputable def kX12_numberHere (pc : Nat) (L : List (Option Value)) (st : List Value) (M : QM) : Option QR := q_D cs_X12_numberHere oX12_numberHere (0, 0) (true, pc, L, st, M, 0, 0)
noncomputable def mX12_numberHere (as : List Value) (M : QM) : Option QR := cond (Nat.ble (q_sl as).length 3) (kX12_numberHere 0 (q_L0 as 3) [] M) none
noncomputable def oX12_toldNumber : QO := fun y => cond (Nat.beq y 235) (mX12_token) (cond (Nat.beq y 241) (mX12_numberHere) (fun _ _ => none))
noncomputable def kX12_toldNumber (pc : Nat) (L : List (Option Value)) (st : List Value) (M : QM) : Option QR := q_D cs_X12_toldNumber oX12_toldNumber (0, 0) (true, pc, L, st, M, 0, 0)
noncomputable def mX12_toldNumber (as : List Value) (M : QM) : Option QR := cond (Nat.ble (q_sl as).length 4) (kX12_toldNumber 0 (q_L0 as 4) [] M) none
noncomputable def oX12_toldBy : QO := fun y => cond (Nat.beq y 240) (mX12_want) (cond (Nat.beq y 242) (mX12_toldNumber) (fun _ _ => none))
noncomputable def kX12_toldBy (pc : Nat) (L : List (Option Value)) (st : List Value) (M : QM) : Option QR := q_D cs_X12_toldBy oX12_toldBy (0, 0) (true, pc, L, st, M, 0, 0)
noncomputable def mX12_toldBy (as : List Value) (M : QM) : Option QR := cond (Nat.ble (q_sl as).length 5) (kX12_toldBy 0 (q_L0 as 5) [] M) none
noncomputable def oX12_find : QO := fun y => fun _ _ => none
noncomputable def kX12_find (pc : Nat) (L : List (Option Value)) (st : List Value) (M : QM) : Option QR := q_D cs_X12_find oX12_find (0, 0) (true, pc, L, st, M, 0, 0)
noncomputable def mX12_find (as : List Value) (M : QM) : Option QR := cond (Nat.ble (q_sl as).length 5) (kX12_find 0 (q_L0 as 5) [] M) none
noncomputable def oX12_newName : QO := fun y => cond (Nat.beq y 235) (mX12_token) (cond (Nat.beq y 236) (mX12_wrong) (cond (Nat.beq y 239) (mX12_isName) (cond (Nat.beq y 244) (mX12_find) (fun _ _ => none))))
noncomputable def kX12_newName (pc : Nat) (L : List (Option Value)) (st : List Value) (M : QM) : Option QR := q_D cs_X12_newName oX12_newName (0, 0) (true, pc, L, st, M, 0, 0)
noncomputable def mX12_newName (as : List Value) (M : QM) : Option QR := cond (Nat.ble (q_sl as).length 3) (kX12_newName 0 (q_L0 as 3) [] M) none
noncomputable def oX12_oldName : QO := fun y => cond (Nat.beq y 236) (mX12_wrong) (cond (Nat.beq y 239) (mX12_isName) (cond (Nat.beq y 244) (mX12_find) (fun _ _ => none)))
noncomputable def kX12_oldName (pc : Nat) (L : List (Option Value)) (st : List Value) (M : QM) : Option QR := q_D cs_X12_oldName oX12_oldName (0, 0) (true, pc, L, st, M, 0, 0)
noncomputable def mX12_oldName (as : List Value) (M : QM) : Option QR := cond (Nat.ble (q_sl as).length 3) (kX12_oldName 0 (q_L0 as 3) [] M) none
noncomputable def oX12_add : QO := fun y => fun _ _ => none
noncomputable def kX12_add (pc : Nat) (L : List (Option Value)) (st : List Value) (M : QM) : Option QR := q_D cs_X12_add oX12_add (0, 0) (true, pc, L, st, M, 0, 0)
noncomputable def mX12_add (as : List Value) (M : QM) : Option QR := cond (Nat.ble (q_sl as).length 3) (kX12_add 0 (q_L0 as 3) [] M) none
noncomputable def oX12_tight : QO := fun y => fun _ _ => none
noncomputable def kX12_tight (pc : Nat) (L : List (Option Value)) (st : List Value) (M : QM) : Option QR := q_D cs_X12_tight oX12_tight (0, 0) (true, pc, L, st, M, 0, 0)
noncomputable def mX12_tight (as : List Value) (M : QM) : Option QR := cond (Nat.ble (q_sl as).length 1) (kX12_tight 0 (q_L0 as 1) [] M) none
noncomputable def oX12_close : QO := fun y => cond (Nat.beq y 247) (mX12_add) (cond (Nat.beq y 248) (mX12_tight) (fun _ _ => none))
noncomputable def kX12_close (pc : Nat) (L : List (Option Value)) (st : List Value) (M : QM) : Option QR := q_D cs_X12_close oX12_close (0, 0) (true, pc, L, st, M, 0, 0)
noncomputable def mX12_close (as : List Value) (M : QM) : Option QR := cond (Nat.ble (q_sl as).length 2) (kX12_close 0 (q_L0 as 2) [] M) none
noncomputable def oX12_hasRelation : QO := fun y => cond (Nat.beq y 248) (mX12_tight) (fun _ _ => none)
noncomputable def kX12_hasRelation (pc : Nat) (L : List (Option Value)) (st : List Value) (M : QM) : Option QR := q_D cs_X12_hasRelation oX12_hasRelation (0, 0) (true, pc, L, st, M, 0, 0)
noncomputable def mX12_hasRelation (as : List Value) (M : QM) : Option QR := cond (Nat.ble (q_sl as).length 2) (kX12_hasRelation 0 (q_L0 as 2) [] M) none
noncomputable def oX12_mayNot : QO := fun y => cond (Nat.beq y 248) (mX12_tight) (fun _ _ => none)
noncomputable def kX12_mayNot (pc : Nat) (L : List (Option Value)) (st : List Value) (M : QM) : Option QR := q_D cs_X12_mayNot oX12_mayNot (0, 0) (true, pc, L, st, M, 0, 0)
noncomputable def mX12_mayNot (as : List Value) (M : QM) : Option QR := cond (Nat.ble (q_sl as).length 1) (kX12_mayNot 0 (q_L0 as 1) [] M) none
noncomputable def oX12_asked : QO := fun y => fun _ _ => none
noncomputable def kX12_asked (pc : Nat) (L : List (Option Value)) (st : List Value) (M : QM) : Option QR := q_D cs_X12_asked oX12_asked (0, 0) (true, pc, L, st, M, 0, 0)
noncomputable def mX12_asked (as : List Value) (M : QM) : Option QR := cond (Nat.ble (q_sl as).length 1) (kX12_asked 0 (q_L0 as 1) [] M) none
noncomputable def oX12_isFull : QO := fun y => fun _ _ => none
noncomputable def kX12_isFull (pc : Nat) (L : List (Option Value)) (st : List Value) (M : QM) : Option QR := q_D cs_X12_isFull oX12_isFull (0, 0) (true, pc, L, st, M, 0, 0)
noncomputable def mX12_isFull (as : List Value) (M : QM) : Option QR := cond (Nat.ble (q_sl as).length 1) (kX12_isFull 0 (q_L0 as 1) [] M) none
noncomputable def oX12_countUnit : QO := fun y => fun _ _ => none
noncomputable def kX12_countUnit (pc : Nat) (L : List (Option Value)) (st : List Value) (M : QM) : Option QR := q_D cs_X12_countUnit oX12_countUnit (0, 0) (true, pc, L, st, M, 0, 0)
noncomputable def mX12_countUnit (as : List Value) (M : QM) : Option QR := cond (Nat.ble (q_sl as).length 1) (kX12_countUnit 0 (q_L0 as 1) [] M) none
noncomputable def oX12_openUp : QO := fun y => cond (Nat.beq y 235) (mX12_token) (fun _ _ => none)
noncomputable def kX12_openUp (pc : Nat) (L : List (Option Value)) (st : List Value) (M : QM) : Option QR := q_D cs_X12_openUp oX12_openUp (0, 0) (true, pc, L, st, M, 0, 0)
noncomputable def mX12_openUp (as : List Value) (M : QM) : Option QR := cond (Nat.ble (q_sl as).length 2) (kX12_openUp 0 (q_L0 as 2) [] M) none
noncomputable def oX12_unit : QO := fun y => cond (Nat.beq y 235) (mX12_token) (cond (Nat.beq y 236) (mX12_wrong) (cond (Nat.beq y 237) (mX12_isWord) (cond (Nat.beq y 247) (mX12_add) (cond (Nat.beq y 251) (mX12_mayNot) (cond (Nat.beq y 252) (mX12_asked) (cond (Nat.beq y 253) (mX12_isFull) (cond (Nat.beq y 254) (mX12_countUnit) (cond (Nat.beq y 255) (mX12_openUp) (fun _ _ => none)))))))))
noncomputable def kX12_unit (pc : Nat) (L : List (Option Value)) (st : List Value) (M : QM) : Option QR := q_D cs_X12_unit oX12_unit (0, 0) (true, pc, L, st, M, 0, 0)
noncomputable def mX12_unit (as : List Value) (M : QM) : Option QR := cond (Nat.ble (q_sl as).length 3) (kX12_unit 0 (q_L0 as 3) [] M) none
noncomputable def oX12_sign : QO := fun y => cond (Nat.beq y 237) (mX12_isWord) (fun _ _ => none)
noncomputable def kX12_sign (pc : Nat) (L : List (Option Value)) (st : List Value) (M : QM) : Option QR := q_D cs_X12_sign oX12_sign (0, 0) (true, pc, L, st, M, 0, 0)
noncomputable def mX12_sign (as : List Value) (M : QM) : Option QR := cond (Nat.ble (q_sl as).length 1) (kX12_sign 0 (q_L0 as 1) [] M) none
noncomputable def oX12_hasBracket : QO := fun y => fun _ _ => none
noncomputable def kX12_hasBracket (pc : Nat) (L : List (Option Value)) (st : List Value) (M : QM) : Option QR := q_D cs_X12_hasBracket oX12_hasBracket (0, 0) (true, pc, L, st, M, 0, 0)
noncomputable def mX12_hasBracket (as : List Value) (M : QM) : Option QR := cond (Nat.ble (q_sl as).length 3) (kX12_hasBracket 0 (q_L0 as 3) [] M) none
noncomputable def oX12_formula : QO := fun y => cond (Nat.beq y 235) (mX12_token) (cond (Nat.beq y 236) (mX12_wrong) (cond (Nat.beq y 248) (mX12_tight) (cond (Nat.beq y 249) (mX12_close) (cond (Nat.beq y 250) (mX12_hasRelation) (cond (Nat.beq y 256) (mX12_unit) (cond (Nat.beq y 257) (mX12_sign) (cond (Nat.beq y 258) (mX12_hasBracket) (fun _ _ => none))))))))
noncomputable def kX12_formula (pc : Nat) (L : List (Option Value)) (st : List Value) (M : QM) : Option QR := q_D cs_X12_formula oX12_formula (0, 0) (true, pc, L, st, M, 0, 0)
noncomputable def mX12_formula (as : List Value) (M : QM) : Option QR := cond (Nat.ble (q_sl as).length 3) (kX12_formula 0 (q_L0 as 3) [] M) none
noncomputable def oX12_truth : QO := fun y => fun _ _ => none
noncomputable def kX12_truth (pc : Nat) (L : List (Option Value)) (st : List Value) (M : QM) : Option QR := q_D cs_X12_truth oX12_truth (0, 0) (true, pc, L, st, M, 0, 0)
noncomputable def mX12_truth (as : List Value) (M : QM) : Option QR := cond (Nat.ble (q_sl as).length 1) (kX12_truth 0 (q_L0 as 1) [] M) none
noncomputable def oX12_done : QO := fun y => cond (Nat.beq y 260) (mX12_truth) (fun _ _ => none)
noncomputable def kX12_done (pc : Nat) (L : List (Option Value)) (st : List Value) (M : QM) : Option QR := q_D cs_X12_done oX12_done (0, 0) (true, pc, L, st, M, 0, 0)
noncomputable def mX12_done (as : List Value) (M : QM) : Option QR := cond (Nat.ble (q_sl as).length 3) (kX12_done 0 (q_L0 as 3) [] M) none
noncomputable def oX12_greater : QO := fun y => fun _ _ => none
noncomputable def kX12_greater (pc : Nat) (L : List (Option Value)) (st : List Value) (M : QM) : Option QR := q_D cs_X12_greater oX12_greater (0, 0) (true, pc, L, st, M, 0, 0)
noncomputable def mX12_greater (as : List Value) (M : QM) : Option QR := cond (Nat.ble (q_sl as).length 2) (kX12_greater 0 (q_L0 as 2) [] M) none
noncomputable def oX12_has : QO := fun y => fun _ _ => none
noncomputable def kX12_has (pc : Nat) (L : List (Option Value)) (st : List Value) (M : QM) : Option QR := q_D cs_X12_has oX12_has (0, 0) (true, pc, L, st, M, 0, 0)
noncomputable def mX12_has (as : List Value) (M : QM) : Option QR := cond (Nat.ble (q_sl as).length 2) (kX12_has 0 (q_L0 as 2) [] M) none
noncomputable def oX12_isIn : QO := fun y => fun _ _ => none
noncomputable def kX12_isIn (pc : Nat) (L : List (Option Value)) (st : List Value) (M : QM) : Option QR := q_D cs_X12_isIn oX12_isIn (0, 0) (true, pc, L, st, M, 0, 0)
noncomputable def mX12_isIn (as : List Value) (M : QM) : Option QR := cond (Nat.ble (q_sl as).length 3) (kX12_isIn 0 (q_L0 as 3) [] M) none
noncomputable def oX12_floatsAt : QO := fun y => cond (Nat.beq y 260) (mX12_truth) (cond (Nat.beq y 261) (mX12_done) (fun _ _ => none))
noncomputable def kX12_floatsAt (pc : Nat) (L : List (Option Value)) (st : List Value) (M : QM) : Option QR := q_D cs_X12_floatsAt oX12_floatsAt (0, 0) (true, pc, L, st, M, 0, 0)
noncomputable def mX12_floatsAt (as : List Value) (M : QM) : Option QR := cond (Nat.ble (q_sl as).length 6) (kX12_floatsAt 0 (q_L0 as 6) [] M) none
noncomputable def oX12_readDevice : QO := fun y => cond (Nat.beq y 237) (mX12_isWord) (cond (Nat.beq y 243) (mX12_toldBy) (cond (Nat.beq y 245) (mX12_newName) (fun _ _ => none)))
noncomputable def kX12_readDevice (pc : Nat) (L : List (Option Value)) (st : List Value) (M : QM) : Option QR := q_D cs_X12_readDevice oX12_readDevice (0, 0) (true, pc, L, st, M, 0, 0)
noncomputable def mX12_readDevice (as : List Value) (M : QM) : Option QR := cond (Nat.ble (q_sl as).length 2) (kX12_readDevice 0 (q_L0 as 2) [] M) none
noncomputable def oX12_readCell : QO := fun y => cond (Nat.beq y 235) (mX12_token) (cond (Nat.beq y 241) (mX12_numberHere) (cond (Nat.beq y 246) (mX12_oldName) (fun _ _ => none)))
noncomputable def kX12_readCell (pc : Nat) (L : List (Option Value)) (st : List Value) (M : QM) : Option QR := q_D cs_X12_readCell oX12_readCell (0, 0) (true, pc, L, st, M, 0, 0)
noncomputable def mX12_readCell (as : List Value) (M : QM) : Option QR := cond (Nat.ble (q_sl as).length 3) (kX12_readCell 0 (q_L0 as 3) [] M) none
noncomputable def oX12_readOwnCell : QO := fun y => cond (Nat.beq y 235) (mX12_token) (cond (Nat.beq y 236) (mX12_wrong) (cond (Nat.beq y 267) (mX12_readCell) (fun _ _ => none)))
noncomputable def kX12_readOwnCell (pc : Nat) (L : List (Option Value)) (st : List Value) (M : QM) : Option QR := q_D cs_X12_readOwnCell oX12_readOwnCell (0, 0) (true, pc, L, st, M, 0, 0)
noncomputable def mX12_readOwnCell (as : List Value) (M : QM) : Option QR := cond (Nat.ble (q_sl as).length 3) (kX12_readOwnCell 0 (q_L0 as 3) [] M) none
noncomputable def oX12_readNet : QO := fun y => cond (Nat.beq y 235) (mX12_token) (cond (Nat.beq y 236) (mX12_wrong) (cond (Nat.beq y 237) (mX12_isWord) (cond (Nat.beq y 239) (mX12_isName) (cond (Nat.beq y 240) (mX12_want) (cond (Nat.beq y 243) (mX12_toldBy) (cond (Nat.beq y 245) (mX12_newName) (cond (Nat.beq y 268) (mX12_readOwnCell) (fun _ _ => none))))))))
noncomputable def kX12_readNet (pc : Nat) (L : List (Option Value)) (st : List Value) (M : QM) : Option QR := q_D cs_X12_readNet oX12_readNet (0, 0) (true, pc, L, st, M, 0, 0)
noncomputable def mX12_readNet (as : List Value) (M : QM) : Option QR := cond (Nat.ble (q_sl as).length 2) (kX12_readNet 0 (q_L0 as 2) [] M) none
noncomputable def oX12_readShort : QO := fun y => cond (Nat.beq y 235) (mX12_token) (cond (Nat.beq y 236) (mX12_wrong) (cond (Nat.beq y 237) (mX12_isWord) (cond (Nat.beq y 246) (mX12_oldName) (fun _ _ => none))))
noncomputable def kX12_readShort (pc : Nat) (L : List (Option Value)) (st : List Value) (M : QM) : Option QR := q_D cs_X12_readShort oX12_readShort (0, 0) (true, pc, L, st, M, 0, 0)
noncomputable def mX12_readShort (as : List Value) (M : QM) : Option QR := cond (Nat.ble (q_sl as).length 4) (kX12_readShort 0 (q_L0 as 4) [] M) none
noncomputable def oX12_readOpen : QO := fun y => cond (Nat.beq y 235) (mX12_token) (cond (Nat.beq y 236) (mX12_wrong) (cond (Nat.beq y 263) (mX12_has) (cond (Nat.beq y 267) (mX12_readCell) (fun _ _ => none))))
noncomputable def kX12_readOpen (pc : Nat) (L : List (Option Value)) (st : List Value) (M : QM) : Option QR := q_D cs_X12_readOpen oX12_readOpen (0, 0) (true, pc, L, st, M, 0, 0)
noncomputable def mX12_readOpen (as : List Value) (M : QM) : Option QR := cond (Nat.ble (q_sl as).length 4) (kX12_readOpen 0 (q_L0 as 4) [] M) none
noncomputable def oX12_readStuck : QO := fun y => cond (Nat.beq y 235) (mX12_token) (cond (Nat.beq y 236) (mX12_wrong) (cond (Nat.beq y 242) (mX12_toldNumber) (cond (Nat.beq y 246) (mX12_oldName) (fun _ _ => none))))
noncomputable def kX12_readStuck (pc : Nat) (L : List (Option Value)) (st : List Value) (M : QM) : Option QR := q_D cs_X12_readStuck oX12_readStuck (0, 0) (true, pc, L, st, M, 0, 0)
noncomputable def mX12_readStuck (as : List Value) (M : QM) : Option QR := cond (Nat.ble (q_sl as).length 3) (kX12_readStuck 0 (q_L0 as 3) [] M) none
noncomputable def oX12_readLine : QO := fun y => cond (Nat.beq y 235) (mX12_token) (cond (Nat.beq y 236) (mX12_wrong) (cond (Nat.beq y 237) (mX12_isWord) (cond (Nat.beq y 243) (mX12_toldBy) (cond (Nat.beq y 259) (mX12_formula) (cond (Nat.beq y 266) (mX12_readDevice) (cond (Nat.beq y 269) (mX12_readNet) (cond (Nat.beq y 270) (mX12_readShort) (cond (Nat.beq y 271) (mX12_readOpen) (cond (Nat.beq y 272) (mX12_readStuck) (fun _ _ => none))))))))))
noncomputable def kX12_readLine (pc : Nat) (L : List (Option Value)) (st : List Value) (M : QM) : Option QR := q_D cs_X12_readLine oX12_readLine (0, 0) (true, pc, L, st, M, 0, 0)
noncomputable def mX12_readLine (as : List Value) (M : QM) : Option QR := cond (Nat.ble (q_sl as).length 1) (kX12_readLine 0 (q_L0 as 1) [] M) none
noncomputable def oX12_readAll : QO := fun y => cond (Nat.beq y 235) (mX12_token) (cond (Nat.beq y 273) (mX12_readLine) (fun _ _ => none))
noncomputable def kX12_readAll (pc : Nat) (L : List (Option Value)) (st : List Value) (M : QM) : Option QR := q_D cs_X12_readAll oX12_readAll (0, 0) (true, pc, L, st, M, 0, 0)
noncomputable def mX12_readAll (as : List Value) (M : QM) : Option QR := cond (Nat.ble (q_sl as).length 2) (kX12_readAll 0 (q_L0 as 2) [] M) none
noncomputable def oX12_layReceivers : QO := fun y => fun _ _ => none
noncomputable def kX12_layReceivers (pc : Nat) (L : List (Option Value)) (st : List Value) (M : QM) : Option QR := q_D cs_X12_layReceivers oX12_layReceivers (0, 0) (true, pc, L, st, M, 0, 0)
noncomputable def mX12_layReceivers (as : List Value) (M : QM) : Option QR := cond (Nat.ble (q_sl as).length 4) (kX12_layReceivers 0 (q_L0 as 4) [] M) none
noncomputable def oX12_board : QO := fun y => cond (Nat.beq y 274) (mX12_readAll) (cond (Nat.beq y 280) (mX12_layReceivers) (cond (Nat.beq y 283) (mX12_layTold) (fun _ _ => none)))
noncomputable def kX12_board (pc : Nat) (L : List (Option Value)) (st : List Value) (M : QM) : Option QR := q_D cs_X12_board oX12_board (0, 0) (true, pc, L, st, M, 0, 0)
noncomputable def mX12_board (as : List Value) (M : QM) : Option QR := cond (Nat.ble (q_sl as).length 2) (kX12_board 0 (q_L0 as 2) [] M) none
noncomputable def oX12_fault : QO := fun y => fun _ _ => none
noncomputable def kX12_fault (pc : Nat) (L : List (Option Value)) (st : List Value) (M : QM) : Option QR := q_D cs_X12_fault oX12_fault (0, 0) (true, pc, L, st, M, 0, 0)
noncomputable def mX12_fault (as : List Value) (M : QM) : Option QR := cond (Nat.ble (q_sl as).length 2) (kX12_fault 0 (q_L0 as 2) [] M) none
noncomputable def oX12_isDevice : QO := fun y => cond (Nat.beq y 264) (mX12_isIn) (fun _ _ => none)
noncomputable def kX12_isDevice (pc : Nat) (L : List (Option Value)) (st : List Value) (M : QM) : Option QR := q_D cs_X12_isDevice oX12_isDevice (0, 0) (true, pc, L, st, M, 0, 0)
noncomputable def mX12_isDevice (as : List Value) (M : QM) : Option QR := cond (Nat.ble (q_sl as).length 2) (kX12_isDevice 0 (q_L0 as 2) [] M) none
noncomputable def oX12_isNet : QO := fun y => cond (Nat.beq y 264) (mX12_isIn) (fun _ _ => none)
noncomputable def kX12_isNet (pc : Nat) (L : List (Option Value)) (st : List Value) (M : QM) : Option QR := q_D cs_X12_isNet oX12_isNet (0, 0) (true, pc, L, st, M, 0, 0)
noncomputable def mX12_isNet (as : List Value) (M : QM) : Option QR := cond (Nat.ble (q_sl as).length 2) (kX12_isNet 0 (q_L0 as 2) [] M) none
noncomputable def oX12_isCell : QO := fun y => cond (Nat.beq y 264) (mX12_isIn) (cond (Nat.beq y 277) (mX12_isDevice) (fun _ _ => none))
noncomputable def kX12_isCell (pc : Nat) (L : List (Option Value)) (st : List Value) (M : QM) : Option QR := q_D cs_X12_isCell oX12_isCell (0, 0) (true, pc, L, st, M, 0, 0)
noncomputable def mX12_isCell (as : List Value) (M : QM) : Option QR := cond (Nat.ble (q_sl as).length 3) (kX12_isCell 0 (q_L0 as 3) [] M) none
noncomputable def oX12_placeOf : QO := fun y => fun _ _ => none
noncomputable def kX12_placeOf (pc : Nat) (L : List (Option Value)) (st : List Value) (M : QM) : Option QR := q_D cs_X12_placeOf oX12_placeOf (0, 0) (true, pc, L, st, M, 0, 0)
noncomputable def mX12_placeOf (as : List Value) (M : QM) : Option QR := cond (Nat.ble (q_sl as).length 4) (kX12_placeOf 0 (q_L0 as 4) [] M) none
noncomputable def oX12_fill : QO := fun y => fun _ _ => none
noncomputable def kX12_fill (pc : Nat) (L : List (Option Value)) (st : List Value) (M : QM) : Option QR := q_D cs_X12_fill oX12_fill (0, 0) (true, pc, L, st, M, 0, 0)
noncomputable def mX12_fill (as : List Value) (M : QM) : Option QR := cond (Nat.ble (q_sl as).length 2) (kX12_fill 0 (q_L0 as 2) [] M) none
noncomputable def oX12_keepAir : QO := fun y => fun _ _ => none
noncomputable def kX12_keepAir (pc : Nat) (L : List (Option Value)) (st : List Value) (M : QM) : Option QR := q_D cs_X12_keepAir oX12_keepAir (0, 0) (true, pc, L, st, M, 0, 0)
noncomputable def mX12_keepAir (as : List Value) (M : QM) : Option QR := cond (Nat.ble (q_sl as).length 2) (kX12_keepAir 0 (q_L0 as 2) [] M) none
noncomputable def oX12_isState : QO := fun y => cond (Nat.beq y 264) (mX12_isIn) (fun _ _ => none)
noncomputable def kX12_isState (pc : Nat) (L : List (Option Value)) (st : List Value) (M : QM) : Option QR := q_D cs_X12_isState oX12_isState (0, 0) (true, pc, L, st, M, 0, 0)
noncomputable def mX12_isState (as : List Value) (M : QM) : Option QR := cond (Nat.ble (q_sl as).length 1) (kX12_isState 0 (q_L0 as 1) [] M) none
noncomputable def oX12_stepTo : QO := fun y => cond (Nat.beq y 286) (mX12_nextState) (fun _ _ => none)
noncomputable def kX12_stepTo (pc : Nat) (L : List (Option Value)) (st : List Value) (M : QM) : Option QR := q_D cs_X12_stepTo oX12_stepTo (0, 0) (true, pc, L, st, M, 0, 0)
noncomputable def mX12_stepTo (as : List Value) (M : QM) : Option QR := cond (Nat.ble (q_sl as).length 3) (kX12_stepTo 0 (q_L0 as 3) [] M) none
noncomputable def oX12_walk : QO := fun y => cond (Nat.beq y 286) (mX12_nextState) (cond (Nat.beq y 288) (mX12_isState) (cond (Nat.beq y 289) (mX12_stepTo) (fun _ _ => none)))
noncomputable def kX12_walk (pc : Nat) (L : List (Option Value)) (st : List Value) (M : QM) : Option QR := q_D cs_X12_walk oX12_walk (0, 0) (true, pc, L, st, M, 0, 0)
noncomputable def mX12_walk (as : List Value) (M : QM) : Option QR := cond (Nat.ble (q_sl as).length 4) (kX12_walk 0 (q_L0 as 4) [] M) none
noncomputable def oX12_walks : QO := fun y => cond (Nat.beq y 260) (mX12_truth) (cond (Nat.beq y 286) (mX12_nextState) (cond (Nat.beq y 288) (mX12_isState) (fun _ _ => none)))
noncomputable def kX12_walks (pc : Nat) (L : List (Option Value)) (st : List Value) (M : QM) : Option QR := q_D cs_X12_walks oX12_walks (0, 0) (true, pc, L, st, M, 0, 0)
noncomputable def mX12_walks (as : List Value) (M : QM) : Option QR := cond (Nat.ble (q_sl as).length 6) (kX12_walks 0 (q_L0 as 6) [] M) none
noncomputable def oX12_farthest : QO := fun y => cond (Nat.beq y 288) (mX12_isState) (fun _ _ => none)
noncomputable def kX12_farthest (pc : Nat) (L : List (Option Value)) (st : List Value) (M : QM) : Option QR := q_D cs_X12_farthest oX12_farthest (0, 0) (true, pc, L, st, M, 0, 0)
noncomputable def mX12_farthest (as : List Value) (M : QM) : Option QR := cond (Nat.ble (q_sl as).length 4) (kX12_farthest 0 (q_L0 as 4) [] M) none
noncomputable def oX12_goes : QO := fun y => cond (Nat.beq y 264) (mX12_isIn) (cond (Nat.beq y 286) (mX12_nextState) (fun _ _ => none))
noncomputable def kX12_goes (pc : Nat) (L : List (Option Value)) (st : List Value) (M : QM) : Option QR := q_D cs_X12_goes oX12_goes (0, 0) (true, pc, L, st, M, 0, 0)
noncomputable def mX12_goes (as : List Value) (M : QM) : Option QR := cond (Nat.ble (q_sl as).length 5) (kX12_goes 0 (q_L0 as 5) [] M) none
noncomputable def oX12_two : QO := fun y => fun _ _ => none
noncomputable def kX12_two (pc : Nat) (L : List (Option Value)) (st : List Value) (M : QM) : Option QR := q_D cs_X12_two oX12_two (0, 0) (true, pc, L, st, M, 0, 0)
noncomputable def mX12_two (as : List Value) (M : QM) : Option QR := cond (Nat.ble (q_sl as).length 2) (kX12_two 0 (q_L0 as 2) [] M) none
noncomputable def oX12_shortOf : QO := fun y => cond (Nat.beq y 294) (mX12_two) (fun _ _ => none)
noncomputable def kX12_shortOf (pc : Nat) (L : List (Option Value)) (st : List Value) (M : QM) : Option QR := q_D cs_X12_shortOf oX12_shortOf (0, 0) (true, pc, L, st, M, 0, 0)
noncomputable def mX12_shortOf (as : List Value) (M : QM) : Option QR := cond (Nat.ble (q_sl as).length 3) (kX12_shortOf 0 (q_L0 as 3) [] M) none
noncomputable def oX12_togetherWith : QO := fun y => cond (Nat.beq y 263) (mX12_has) (cond (Nat.beq y 295) (mX12_shortOf) (fun _ _ => none))
noncomputable def kX12_togetherWith (pc : Nat) (L : List (Option Value)) (st : List Value) (M : QM) : Option QR := q_D cs_X12_togetherWith oX12_togetherWith (0, 0) (true, pc, L, st, M, 0, 0)
noncomputable def mX12_togetherWith (as : List Value) (M : QM) : Option QR := cond (Nat.ble (q_sl as).length 6) (kX12_togetherWith 0 (q_L0 as 6) [] M) none
noncomputable def oX12_isLow : QO := fun y => cond (Nat.beq y 263) (mX12_has) (cond (Nat.beq y 295) (mX12_shortOf) (fun _ _ => none))
noncomputable def kX12_isLow (pc : Nat) (L : List (Option Value)) (st : List Value) (M : QM) : Option QR := q_D cs_X12_isLow oX12_isLow (0, 0) (true, pc, L, st, M, 0, 0)
noncomputable def mX12_isLow (as : List Value) (M : QM) : Option QR := cond (Nat.ble (q_sl as).length 5) (kX12_isLow 0 (q_L0 as 5) [] M) none
noncomputable def oX12_layLevels : QO := fun y => cond (Nat.beq y 260) (mX12_truth) (cond (Nat.beq y 263) (mX12_has) (cond (Nat.beq y 296) (mX12_togetherWith) (cond (Nat.beq y 297) (mX12_isLow) (fun _ _ => none))))
noncomputable def kX12_layLevels (pc : Nat) (L : List (Option Value)) (st : List Value) (M : QM) : Option QR := q_D cs_X12_layLevels oX12_layLevels (0, 0) (true, pc, L, st, M, 0, 0)
noncomputable def mX12_layLevels (as : List Value) (M : QM) : Option QR := cond (Nat.ble (q_sl as).length 6) (kX12_layLevels 0 (q_L0 as 6) [] M) none
noncomputable def oX12_driverHas : QO := fun y => cond (Nat.beq y 262) (mX12_greater) (fun _ _ => none)
noncomputable def kX12_driverHas (pc : Nat) (L : List (Option Value)) (st : List Value) (M : QM) : Option QR := q_D cs_X12_driverHas oX12_driverHas (0, 0) (true, pc, L, st, M, 0, 0)
noncomputable def mX12_driverHas (as : List Value) (M : QM) : Option QR := cond (Nat.ble (q_sl as).length 3) (kX12_driverHas 0 (q_L0 as 3) [] M) none
noncomputable def oX12_isDriverOf : QO := fun y => fun _ _ => none
noncomputable def kX12_isDriverOf (pc : Nat) (L : List (Option Value)) (st : List Value) (M : QM) : Option QR := q_D cs_X12_isDriverOf oX12_isDriverOf (0, 0) (true, pc, L, st, M, 0, 0)
noncomputable def mX12_isDriverOf (as : List Value) (M : QM) : Option QR := cond (Nat.ble (q_sl as).length 3) (kX12_isDriverOf 0 (q_L0 as 3) [] M) none
noncomputable def oX12_layDriven : QO := fun y => cond (Nat.beq y 298) (mX12_layLevels) (cond (Nat.beq y 299) (mX12_driverHas) (cond (Nat.beq y 300) (mX12_isDriverOf) (fun _ _ => none)))
noncomputable def kX12_layDriven (pc : Nat) (L : List (Option Value)) (st : List Value) (M : QM) : Option QR := q_D cs_X12_layDriven oX12_layDriven (0, 0) (true, pc, L, st, M, 0, 0)
noncomputable def mX12_layDriven (as : List Value) (M : QM) : Option QR := cond (Nat.ble (q_sl as).length 3) (kX12_layDriven 0 (q_L0 as 3) [] M) none
noncomputable def oX12_readsAt : QO := fun y => cond (Nat.beq y 263) (mX12_has) (cond (Nat.beq y 265) (mX12_floatsAt) (fun _ _ => none))
noncomputable def kX12_readsAt (pc : Nat) (L : List (Option Value)) (st : List Value) (M : QM) : Option QR := q_D cs_X12_readsAt oX12_readsAt (0, 0) (true, pc, L, st, M, 0, 0)
noncomputable def mX12_readsAt (as : List Value) (M : QM) : Option QR := cond (Nat.ble (q_sl as).length 3) (kX12_readsAt 0 (q_L0 as 3) [] M) none
noncomputable def oX12_isFighting : QO := fun y => cond (Nat.beq y 299) (mX12_driverHas) (cond (Nat.beq y 300) (mX12_isDriverOf) (fun _ _ => none))
noncomputable def kX12_isFighting (pc : Nat) (L : List (Option Value)) (st : List Value) (M : QM) : Option QR := q_D cs_X12_isFighting oX12_isFighting (0, 0) (true, pc, L, st, M, 0, 0)
noncomputable def mX12_isFighting (as : List Value) (M : QM) : Option QR := cond (Nat.ble (q_sl as).length 4) (kX12_isFighting 0 (q_L0 as 4) [] M) none
noncomputable def oX12_dataBits : QO := fun y => fun _ _ => none
noncomputable def kX12_dataBits (pc : Nat) (L : List (Option Value)) (st : List Value) (M : QM) : Option QR := q_D cs_X12_dataBits oX12_dataBits (0, 0) (true, pc, L, st, M, 0, 0)
noncomputable def mX12_dataBits (as : List Value) (M : QM) : Option QR := cond (Nat.ble (q_sl as).length 3) (kX12_dataBits 0 (q_L0 as 3) [] M) none
noncomputable def oX12_setOrder : QO := fun y => fun _ _ => none
noncomputable def kX12_setOrder (pc : Nat) (L : List (Option Value)) (st : List Value) (M : QM) : Option QR := q_D cs_X12_setOrder oX12_setOrder (0, 0) (true, pc, L, st, M, 0, 0)
noncomputable def mX12_setOrder (as : List Value) (M : QM) : Option QR := cond (Nat.ble (q_sl as).length 3) (kX12_setOrder 0 (q_L0 as 3) [] M) none
noncomputable def oX12_captured : QO := fun y => cond (Nat.beq y 302) (mX12_readsAt) (fun _ _ => none)
noncomputable def kX12_captured (pc : Nat) (L : List (Option Value)) (st : List Value) (M : QM) : Option QR := q_D cs_X12_captured oX12_captured (0, 0) (true, pc, L, st, M, 0, 0)
noncomputable def mX12_captured (as : List Value) (M : QM) : Option QR := cond (Nat.ble (q_sl as).length 5) (kX12_captured 0 (q_L0 as 5) [] M) none
noncomputable def oX12_captures : QO := fun y => cond (Nat.beq y 301) (mX12_layDriven) (cond (Nat.beq y 304) (mX12_dataBits) (cond (Nat.beq y 306) (mX12_captured) (fun _ _ => none)))
noncomputable def kX12_captures (pc : Nat) (L : List (Option Value)) (st : List Value) (M : QM) : Option QR := q_D cs_X12_captures oX12_captures (0, 0) (true, pc, L, st, M, 0, 0)
noncomputable def mX12_captures (as : List Value) (M : QM) : Option QR := cond (Nat.ble (q_sl as).length 2) (kX12_captures 0 (q_L0 as 2) [] M) none
noncomputable def oX12_shifts : QO := fun y => cond (Nat.beq y 304) (mX12_dataBits) (fun _ _ => none)
noncomputable def kX12_shifts (pc : Nat) (L : List (Option Value)) (st : List Value) (M : QM) : Option QR := q_D cs_X12_shifts oX12_shifts (0, 0) (true, pc, L, st, M, 0, 0)
noncomputable def mX12_shifts (as : List Value) (M : QM) : Option QR := cond (Nat.ble (q_sl as).length 8) (kX12_shifts 0 (q_L0 as 8) [] M) none
noncomputable def oX12_goClock : QO := fun y => cond (Nat.beq y 282) (mX12_restOrder) (cond (Nat.beq y 286) (mX12_nextState) (cond (Nat.beq y 305) (mX12_setOrder) (cond (Nat.beq y 307) (mX12_captures) (cond (Nat.beq y 308) (mX12_shifts) (fun _ _ => none)))))
noncomputable def kX12_goClock (pc : Nat) (L : List (Option Value)) (st : List Value) (M : QM) : Option QR := q_D cs_X12_goClock oX12_goClock (0, 0) (true, pc, L, st, M, 0, 0)
noncomputable def mX12_goClock (as : List Value) (M : QM) : Option QR := cond (Nat.ble (q_sl as).length 6) (kX12_goClock 0 (q_L0 as 6) [] M) none
noncomputable def oX12_walkTo : QO := fun y => cond (Nat.beq y 289) (mX12_stepTo) (cond (Nat.beq y 309) (mX12_goClock) (fun _ _ => none))
noncomputable def kX12_walkTo (pc : Nat) (L : List (Option Value)) (st : List Value) (M : QM) : Option QR := q_D cs_X12_walkTo oX12_walkTo (0, 0) (true, pc, L, st, M, 0, 0)
noncomputable def mX12_walkTo (as : List Value) (M : QM) : Option QR := cond (Nat.ble (q_sl as).length 2) (kX12_walkTo 0 (q_L0 as 2) [] M) none
noncomputable def oX12_act : QO := fun y => cond (Nat.beq y 284) (mX12_fill) (fun _ _ => none)
noncomputable def kX12_act (pc : Nat) (L : List (Option Value)) (st : List Value) (M : QM) : Option QR := q_D cs_X12_act oX12_act (0, 0) (true, pc, L, st, M, 0, 0)
noncomputable def mX12_act (as : List Value) (M : QM) : Option QR := cond (Nat.ble (q_sl as).length 2) (kX12_act 0 (q_L0 as 2) [] M) none
noncomputable def oX12_exchangeAt : QO := fun y => fun _ _ => none
noncomputable def kX12_exchangeAt (pc : Nat) (L : List (Option Value)) (st : List Value) (M : QM) : Option QR := q_D cs_X12_exchangeAt oX12_exchangeAt (0, 0) (true, pc, L, st, M, 0, 0)
noncomputable def mX12_exchangeAt (as : List Value) (M : QM) : Option QR := cond (Nat.ble (q_sl as).length 4) (kX12_exchangeAt 0 (q_L0 as 4) [] M) none
noncomputable def oX12_clock : QO := fun y => cond (Nat.beq y 264) (mX12_isIn) (cond (Nat.beq y 285) (mX12_keepAir) (cond (Nat.beq y 309) (mX12_goClock) (cond (Nat.beq y 311) (mX12_act) (fun _ _ => none))))
noncomputable def kX12_clock (pc : Nat) (L : List (Option Value)) (st : List Value) (M : QM) : Option QR := q_D cs_X12_clock oX12_clock (0, 0) (true, pc, L, st, M, 0, 0)
noncomputable def mX12_clock (as : List Value) (M : QM) : Option QR := cond (Nat.ble (q_sl as).length 4) (kX12_clock 0 (q_L0 as 4) [] M) none
noncomputable def oX12_scan : QO := fun y => cond (Nat.beq y 260) (mX12_truth) (cond (Nat.beq y 264) (mX12_isIn) (cond (Nat.beq y 285) (mX12_keepAir) (cond (Nat.beq y 309) (mX12_goClock) (cond (Nat.beq y 310) (mX12_walkTo) (cond (Nat.beq y 311) (mX12_act) (fun _ _ => none))))))
noncomputable def kX12_scan (pc : Nat) (L : List (Option Value)) (st : List Value) (M : QM) : Option QR := q_D cs_X12_scan oX12_scan (0, 0) (true, pc, L, st, M, 0, 0)
noncomputable def mX12_scan (as : List Value) (M : QM) : Option QR := cond (Nat.ble (q_sl as).length 6) (kX12_scan 0 (q_L0 as 6) [] M) none
noncomputable def oX12_undo : QO := fun y => cond (Nat.beq y 312) (mX12_exchangeAt) (fun _ _ => none)
noncomputable def kX12_undo (pc : Nat) (L : List (Option Value)) (st : List Value) (M : QM) : Option QR := q_D cs_X12_undo oX12_undo (0, 0) (true, pc, L, st, M, 0, 0)
noncomputable def mX12_undo (as : List Value) (M : QM) : Option QR := cond (Nat.ble (q_sl as).length 1) (kX12_undo 0 (q_L0 as 1) [] M) none
noncomputable def oX12_redo : QO := fun y => cond (Nat.beq y 312) (mX12_exchangeAt) (fun _ _ => none)
noncomputable def kX12_redo (pc : Nat) (L : List (Option Value)) (st : List Value) (M : QM) : Option QR := q_D cs_X12_redo oX12_redo (0, 0) (true, pc, L, st, M, 0, 0)
noncomputable def mX12_redo (as : List Value) (M : QM) : Option QR := cond (Nat.ble (q_sl as).length 1) (kX12_redo 0 (q_L0 as 1) [] M) none
noncomputable def oX12_device : QO := fun y => cond (Nat.beq y 277) (mX12_isDevice) (cond (Nat.beq y 284) (mX12_fill) (cond (Nat.beq y 304) (mX12_dataBits) (fun _ _ => none)))
noncomputable def kX12_device (pc : Nat) (L : List (Option Value)) (st : List Value) (M : QM) : Option QR := q_D cs_X12_device oX12_device (0, 0) (true, pc, L, st, M, 0, 0)
noncomputable def mX12_device (as : List Value) (M : QM) : Option QR := cond (Nat.ble (q_sl as).length 3) (kX12_device 0 (q_L0 as 3) [] M) none
noncomputable def oX12_manyOf : QO := fun y => cond (Nat.beq y 260) (mX12_truth) (fun _ _ => none)
noncomputable def kX12_manyOf (pc : Nat) (L : List (Option Value)) (st : List Value) (M : QM) : Option QR := q_D cs_X12_manyOf oX12_manyOf (0, 0) (true, pc, L, st, M, 0, 0)
noncomputable def mX12_manyOf (as : List Value) (M : QM) : Option QR := cond (Nat.ble (q_sl as).length 5) (kX12_manyOf 0 (q_L0 as 5) [] M) none
noncomputable def oX12_net : QO := fun y => cond (Nat.beq y 260) (mX12_truth) (cond (Nat.beq y 278) (mX12_isNet) (cond (Nat.beq y 284) (mX12_fill) (cond (Nat.beq y 296) (mX12_togetherWith) (cond (Nat.beq y 301) (mX12_layDriven) (cond (Nat.beq y 303) (mX12_isFighting) (cond (Nat.beq y 318) (mX12_manyOf) (fun _ _ => none)))))))
noncomputable def kX12_net (pc : Nat) (L : List (Option Value)) (st : List Value) (M : QM) : Option QR := q_D cs_X12_net oX12_net (0, 0) (true, pc, L, st, M, 0, 0)
noncomputable def mX12_net (as : List Value) (M : QM) : Option QR := cond (Nat.ble (q_sl as).length 3) (kX12_net 0 (q_L0 as 3) [] M) none
noncomputable def oX12_cell : QO := fun y => cond (Nat.beq y 260) (mX12_truth) (cond (Nat.beq y 263) (mX12_has) (cond (Nat.beq y 279) (mX12_isCell) (cond (Nat.beq y 284) (mX12_fill) (cond (Nat.beq y 301) (mX12_layDriven) (cond (Nat.beq y 302) (mX12_readsAt) (fun _ _ => none))))))
noncomputable def kX12_cell (pc : Nat) (L : List (Option Value)) (st : List Value) (M : QM) : Option QR := q_D cs_X12_cell oX12_cell (0, 0) (true, pc, L, st, M, 0, 0)
noncomputable def mX12_cell (as : List Value) (M : QM) : Option QR := cond (Nat.ble (q_sl as).length 5) (kX12_cell 0 (q_L0 as 5) [] M) none
noncomputable def oX12_length : QO := fun y => cond (Nat.beq y 264) (mX12_isIn) (cond (Nat.beq y 284) (mX12_fill) (cond (Nat.beq y 304) (mX12_dataBits) (fun _ _ => none)))
noncomputable def kX12_length (pc : Nat) (L : List (Option Value)) (st : List Value) (M : QM) : Option QR := q_D cs_X12_length oX12_length (0, 0) (true, pc, L, st, M, 0, 0)
noncomputable def mX12_length (as : List Value) (M : QM) : Option QR := cond (Nat.ble (q_sl as).length 4) (kX12_length 0 (q_L0 as 4) [] M) none
noncomputable def oX12_found : QO := fun y => cond (Nat.beq y 264) (mX12_isIn) (fun _ _ => none)
noncomputable def kX12_found (pc : Nat) (L : List (Option Value)) (st : List Value) (M : QM) : Option QR := q_D cs_X12_found oX12_found (0, 0) (true, pc, L, st, M, 0, 0)
noncomputable def mX12_found (as : List Value) (M : QM) : Option QR := cond (Nat.ble (q_sl as).length 2) (kX12_found 0 (q_L0 as 2) [] M) none
noncomputable def oX12_fights : QO := fun y => cond (Nat.beq y 260) (mX12_truth) (cond (Nat.beq y 284) (mX12_fill) (cond (Nat.beq y 303) (mX12_isFighting) (fun _ _ => none)))
noncomputable def kX12_fights (pc : Nat) (L : List (Option Value)) (st : List Value) (M : QM) : Option QR := q_D cs_X12_fights oX12_fights (0, 0) (true, pc, L, st, M, 0, 0)
noncomputable def mX12_fights (as : List Value) (M : QM) : Option QR := cond (Nat.ble (q_sl as).length 3) (kX12_fights 0 (q_L0 as 3) [] M) none
noncomputable def oX12_unsafe : QO := fun y => cond (Nat.beq y 260) (mX12_truth) (cond (Nat.beq y 284) (mX12_fill) (cond (Nat.beq y 301) (mX12_layDriven) (fun _ _ => none)))
noncomputable def kX12_unsafe (pc : Nat) (L : List (Option Value)) (st : List Value) (M : QM) : Option QR := q_D cs_X12_unsafe oX12_unsafe (0, 0) (true, pc, L, st, M, 0, 0)
noncomputable def mX12_unsafe (as : List Value) (M : QM) : Option QR := cond (Nat.ble (q_sl as).length 3) (kX12_unsafe 0 (q_L0 as 3) [] M) none
noncomputable def oX12_hasAllOnes : QO := fun y => fun _ _ => none
noncomputable def kX12_hasAllOnes (pc : Nat) (L : List (Option Value)) (st : List Value) (M : QM) : Option QR := q_D cs_X12_hasAllOnes oX12_hasAllOnes (0, 0) (true, pc, L, st, M, 0, 0)
noncomputable def mX12_hasAllOnes (as : List Value) (M : QM) : Option QR := cond (Nat.ble (q_sl as).length 5) (kX12_hasAllOnes 0 (q_L0 as 5) [] M) none
noncomputable def oX12_countSteps : QO := fun y => cond (Nat.beq y 326) (mX12_hasAllOnes) (fun _ _ => none)
noncomputable def kX12_countSteps (pc : Nat) (L : List (Option Value)) (st : List Value) (M : QM) : Option QR := q_D cs_X12_countSteps oX12_countSteps (0, 0) (true, pc, L, st, M, 0, 0)
noncomputable def mX12_countSteps (as : List Value) (M : QM) : Option QR := cond (Nat.ble (q_sl as).length 2) (kX12_countSteps 0 (q_L0 as 2) [] M) none
noncomputable def oX12_isKind : QO := fun y => cond (Nat.beq y 264) (mX12_isIn) (fun _ _ => none)
noncomputable def kX12_isKind (pc : Nat) (L : List (Option Value)) (st : List Value) (M : QM) : Option QR := q_D cs_X12_isKind oX12_isKind (0, 0) (true, pc, L, st, M, 0, 0)
noncomputable def mX12_isKind (as : List Value) (M : QM) : Option QR := cond (Nat.ble (q_sl as).length 1) (kX12_isKind 0 (q_L0 as 1) [] M) none
noncomputable def oX12_stepsOf : QO := fun y => cond (Nat.beq y 325) (mX12_countSteps) (fun _ _ => none)
noncomputable def kX12_stepsOf (pc : Nat) (L : List (Option Value)) (st : List Value) (M : QM) : Option QR := q_D cs_X12_stepsOf oX12_stepsOf (0, 0) (true, pc, L, st, M, 0, 0)
noncomputable def mX12_stepsOf (as : List Value) (M : QM) : Option QR := cond (Nat.ble (q_sl as).length 2) (kX12_stepsOf 0 (q_L0 as 2) [] M) none
noncomputable def oX12_steps : QO := fun y => cond (Nat.beq y 327) (mX12_isKind) (cond (Nat.beq y 328) (mX12_stepsOf) (fun _ _ => none))
noncomputable def kX12_steps (pc : Nat) (L : List (Option Value)) (st : List Value) (M : QM) : Option QR := q_D cs_X12_steps oX12_steps (0, 0) (true, pc, L, st, M, 0, 0)
noncomputable def mX12_steps (as : List Value) (M : QM) : Option QR := cond (Nat.ble (q_sl as).length 2) (kX12_steps 0 (q_L0 as 2) [] M) none
noncomputable def oX12_bitOf : QO := fun y => cond (Nat.beq y 260) (mX12_truth) (cond (Nat.beq y 325) (mX12_countSteps) (fun _ _ => none))
noncomputable def kX12_bitOf (pc : Nat) (L : List (Option Value)) (st : List Value) (M : QM) : Option QR := q_D cs_X12_bitOf oX12_bitOf (0, 0) (true, pc, L, st, M, 0, 0)
noncomputable def mX12_bitOf (as : List Value) (M : QM) : Option QR := cond (Nat.ble (q_sl as).length 5) (kX12_bitOf 0 (q_L0 as 5) [] M) none
noncomputable def oX12_wanted : QO := fun y => cond (Nat.beq y 328) (mX12_stepsOf) (cond (Nat.beq y 330) (mX12_bitOf) (fun _ _ => none))
noncomputable def kX12_wanted (pc : Nat) (L : List (Option Value)) (st : List Value) (M : QM) : Option QR := q_D cs_X12_wanted oX12_wanted (0, 0) (true, pc, L, st, M, 0, 0)
noncomputable def mX12_wanted (as : List Value) (M : QM) : Option QR := cond (Nat.ble (q_sl as).length 5) (kX12_wanted 0 (q_L0 as 5) [] M) none
noncomputable def oX12_tells : QO := fun y => cond (Nat.beq y 278) (mX12_isNet) (cond (Nat.beq y 327) (mX12_isKind) (cond (Nat.beq y 331) (mX12_wanted) (fun _ _ => none)))
noncomputable def kX12_tells (pc : Nat) (L : List (Option Value)) (st : List Value) (M : QM) : Option QR := q_D cs_X12_tells oX12_tells (0, 0) (true, pc, L, st, M, 0, 0)
noncomputable def mX12_tells (as : List Value) (M : QM) : Option QR := cond (Nat.ble (q_sl as).length 3) (kX12_tells 0 (q_L0 as 3) [] M) none
noncomputable def oX12_layAnswers : QO := fun y => cond (Nat.beq y 298) (mX12_layLevels) (cond (Nat.beq y 302) (mX12_readsAt) (cond (Nat.beq y 328) (mX12_stepsOf) (cond (Nat.beq y 331) (mX12_wanted) (fun _ _ => none))))
noncomputable def kX12_layAnswers (pc : Nat) (L : List (Option Value)) (st : List Value) (M : QM) : Option QR := q_D cs_X12_layAnswers oX12_layAnswers (0, 0) (true, pc, L, st, M, 0, 0)
noncomputable def mX12_layAnswers (as : List Value) (M : QM) : Option QR := cond (Nat.ble (q_sl as).length 6) (kX12_layAnswers 0 (q_L0 as 6) [] M) none
noncomputable def oX12_layNow : QO := fun y => cond (Nat.beq y 284) (mX12_fill) (cond (Nat.beq y 333) (mX12_layAnswers) (fun _ _ => none))
noncomputable def kX12_layNow (pc : Nat) (L : List (Option Value)) (st : List Value) (M : QM) : Option QR := q_D cs_X12_layNow oX12_layNow (0, 0) (true, pc, L, st, M, 0, 0)
noncomputable def mX12_layNow (as : List Value) (M : QM) : Option QR := cond (Nat.ble (q_sl as).length 2) (kX12_layNow 0 (q_L0 as 2) [] M) none
noncomputable def oX12_netAt : QO := fun y => fun _ _ => none
noncomputable def kX12_netAt (pc : Nat) (L : List (Option Value)) (st : List Value) (M : QM) : Option QR := q_D cs_X12_netAt oX12_netAt (0, 0) (true, pc, L, st, M, 0, 0)
noncomputable def mX12_netAt (as : List Value) (M : QM) : Option QR := cond (Nat.ble (q_sl as).length 2) (kX12_netAt 0 (q_L0 as 2) [] M) none
noncomputable def oX12_isGood : QO := fun y => cond (Nat.beq y 335) (mX12_netAt) (fun _ _ => none)
noncomputable def kX12_isGood (pc : Nat) (L : List (Option Value)) (st : List Value) (M : QM) : Option QR := q_D cs_X12_isGood oX12_isGood (0, 0) (true, pc, L, st, M, 0, 0)
noncomputable def mX12_isGood (as : List Value) (M : QM) : Option QR := cond (Nat.ble (q_sl as).length 2) (kX12_isGood 0 (q_L0 as 2) [] M) none
noncomputable def oX12_isOpen : QO := fun y => cond (Nat.beq y 263) (mX12_has) (fun _ _ => none)
noncomputable def kX12_isOpen (pc : Nat) (L : List (Option Value)) (st : List Value) (M : QM) : Option QR := q_D cs_X12_isOpen oX12_isOpen (0, 0) (true, pc, L, st, M, 0, 0)
noncomputable def mX12_isOpen (as : List Value) (M : QM) : Option QR := cond (Nat.ble (q_sl as).length 2) (kX12_isOpen 0 (q_L0 as 2) [] M) none
noncomputable def oX12_goodMany : QO := fun y => cond (Nat.beq y 260) (mX12_truth) (cond (Nat.beq y 336) (mX12_isGood) (fun _ _ => none))
noncomputable def kX12_goodMany (pc : Nat) (L : List (Option Value)) (st : List Value) (M : QM) : Option QR := q_D cs_X12_goodMany oX12_goodMany (0, 0) (true, pc, L, st, M, 0, 0)
noncomputable def mX12_goodMany (as : List Value) (M : QM) : Option QR := cond (Nat.ble (q_sl as).length 3) (kX12_goodMany 0 (q_L0 as 3) [] M) none
noncomputable def oX12_answer : QO := fun y => cond (Nat.beq y 279) (mX12_isCell) (cond (Nat.beq y 281) (mX12_placeOf) (cond (Nat.beq y 327) (mX12_isKind) (cond (Nat.beq y 334) (mX12_layNow) (fun _ _ => none))))
noncomputable def kX12_answer (pc : Nat) (L : List (Option Value)) (st : List Value) (M : QM) : Option QR := q_D cs_X12_answer oX12_answer (0, 0) (true, pc, L, st, M, 0, 0)
noncomputable def mX12_answer (as : List Value) (M : QM) : Option QR := cond (Nat.ble (q_sl as).length 5) (kX12_answer 0 (q_L0 as 5) [] M) none
noncomputable def oX12_good : QO := fun y => cond (Nat.beq y 327) (mX12_isKind) (cond (Nat.beq y 334) (mX12_layNow) (cond (Nat.beq y 338) (mX12_goodMany) (fun _ _ => none)))
noncomputable def kX12_good (pc : Nat) (L : List (Option Value)) (st : List Value) (M : QM) : Option QR := q_D cs_X12_good oX12_good (0, 0) (true, pc, L, st, M, 0, 0)
noncomputable def mX12_good (as : List Value) (M : QM) : Option QR := cond (Nat.ble (q_sl as).length 2) (kX12_good 0 (q_L0 as 2) [] M) none
noncomputable def oX12_aliased : QO := fun y => cond (Nat.beq y 260) (mX12_truth) (cond (Nat.beq y 327) (mX12_isKind) (cond (Nat.beq y 334) (mX12_layNow) (cond (Nat.beq y 335) (mX12_netAt) (cond (Nat.beq y 336) (mX12_isGood) (cond (Nat.beq y 337) (mX12_isOpen) (fun _ _ => none))))))
noncomputable def kX12_aliased (pc : Nat) (L : List (Option Value)) (st : List Value) (M : QM) : Option QR := q_D cs_X12_aliased oX12_aliased (0, 0) (true, pc, L, st, M, 0, 0)
noncomputable def mX12_aliased (as : List Value) (M : QM) : Option QR := cond (Nat.ble (q_sl as).length 5) (kX12_aliased 0 (q_L0 as 5) [] M) none
noncomputable def oX12_confounded : QO := fun y => cond (Nat.beq y 260) (mX12_truth) (cond (Nat.beq y 263) (mX12_has) (cond (Nat.beq y 278) (mX12_isNet) (cond (Nat.beq y 296) (mX12_togetherWith) (cond (Nat.beq y 327) (mX12_isKind) (cond (Nat.beq y 334) (mX12_layNow) (cond (Nat.beq y 335) (mX12_netAt) (cond (Nat.beq y 336) (mX12_isGood) (fun _ _ => none))))))))
noncomputable def kX12_confounded (pc : Nat) (L : List (Option Value)) (st : List Value) (M : QM) : Option QR := q_D cs_X12_confounded oX12_confounded (0, 0) (true, pc, L, st, M, 0, 0)
noncomputable def mX12_confounded (as : List Value) (M : QM) : Option QR := cond (Nat.ble (q_sl as).length 6) (kX12_confounded 0 (q_L0 as 6) [] M) none
noncomputable def oX12_verdict : QO := fun y => cond (Nat.beq y 278) (mX12_isNet) (cond (Nat.beq y 327) (mX12_isKind) (cond (Nat.beq y 328) (mX12_stepsOf) (cond (Nat.beq y 334) (mX12_layNow) (cond (Nat.beq y 335) (mX12_netAt) (cond (Nat.beq y 336) (mX12_isGood) (fun _ _ => none))))))
noncomputable def kX12_verdict (pc : Nat) (L : List (Option Value)) (st : List Value) (M : QM) : Option QR := q_D cs_X12_verdict oX12_verdict (0, 0) (true, pc, L, st, M, 0, 0)
noncomputable def mX12_verdict (as : List Value) (M : QM) : Option QR := cond (Nat.ble (q_sl as).length 11) (kX12_verdict 0 (q_L0 as 11) [] M) none
noncomputable def oX12_openFrom : QO := fun y => fun _ _ => none
noncomputable def kX12_openFrom (pc : Nat) (L : List (Option Value)) (st : List Value) (M : QM) : Option QR := q_D cs_X12_openFrom oX12_openFrom (0, 0) (true, pc, L, st, M, 0, 0)
noncomputable def mX12_openFrom (as : List Value) (M : QM) : Option QR := cond (Nat.ble (q_sl as).length 1) (kX12_openFrom 0 (q_L0 as 1) [] M) none
noncomputable def oX12_shortFrom : QO := fun y => fun _ _ => none
noncomputable def kX12_shortFrom (pc : Nat) (L : List (Option Value)) (st : List Value) (M : QM) : Option QR := q_D cs_X12_shortFrom oX12_shortFrom (0, 0) (true, pc, L, st, M, 0, 0)
noncomputable def mX12_shortFrom (as : List Value) (M : QM) : Option QR := cond (Nat.ble (q_sl as).length 1) (kX12_shortFrom 0 (q_L0 as 1) [] M) none
noncomputable def oX12_singleMany : QO := fun y => cond (Nat.beq y 345) (mX12_shortFrom) (fun _ _ => none)
noncomputable def kX12_singleMany (pc : Nat) (L : List (Option Value)) (st : List Value) (M : QM) : Option QR := q_D cs_X12_singleMany oX12_singleMany (0, 0) (true, pc, L, st, M, 0, 0)
noncomputable def mX12_singleMany (as : List Value) (M : QM) : Option QR := cond (Nat.ble (q_sl as).length 1) (kX12_singleMany 0 (q_L0 as 1) [] M) none
noncomputable def oX12_singles : QO := fun y => cond (Nat.beq y 346) (mX12_singleMany) (fun _ _ => none)
noncomputable def kX12_singles (pc : Nat) (L : List (Option Value)) (st : List Value) (M : QM) : Option QR := q_D cs_X12_singles oX12_singles (0, 0) (true, pc, L, st, M, 0, 0)
noncomputable def mX12_singles (as : List Value) (M : QM) : Option QR := cond (Nat.ble (q_sl as).length 1) (kX12_singles 0 (q_L0 as 1) [] M) none
noncomputable def oX12_isSingle : QO := fun y => cond (Nat.beq y 264) (mX12_isIn) (cond (Nat.beq y 346) (mX12_singleMany) (fun _ _ => none))
noncomputable def kX12_isSingle (pc : Nat) (L : List (Option Value)) (st : List Value) (M : QM) : Option QR := q_D cs_X12_isSingle oX12_isSingle (0, 0) (true, pc, L, st, M, 0, 0)
noncomputable def mX12_isSingle (as : List Value) (M : QM) : Option QR := cond (Nat.ble (q_sl as).length 2) (kX12_isSingle 0 (q_L0 as 2) [] M) none
noncomputable def oX12_pairOf : QO := fun y => cond (Nat.beq y 345) (mX12_shortFrom) (fun _ _ => none)
noncomputable def kX12_pairOf (pc : Nat) (L : List (Option Value)) (st : List Value) (M : QM) : Option QR := q_D cs_X12_pairOf oX12_pairOf (0, 0) (true, pc, L, st, M, 0, 0)
noncomputable def mX12_pairOf (as : List Value) (M : QM) : Option QR := cond (Nat.ble (q_sl as).length 4) (kX12_pairOf 0 (q_L0 as 4) [] M) none
noncomputable def oX12_shortKind : QO := fun y => cond (Nat.beq y 345) (mX12_shortFrom) (fun _ _ => none)
noncomputable def kX12_shortKind (pc : Nat) (L : List (Option Value)) (st : List Value) (M : QM) : Option QR := q_D cs_X12_shortKind oX12_shortKind (0, 0) (true, pc, L, st, M, 0, 0)
noncomputable def mX12_shortKind (as : List Value) (M : QM) : Option QR := cond (Nat.ble (q_sl as).length 2) (kX12_shortKind 0 (q_L0 as 2) [] M) none
noncomputable def oX12_receiverOf : QO := fun y => cond (Nat.beq y 344) (mX12_openFrom) (fun _ _ => none)
noncomputable def kX12_receiverOf (pc : Nat) (L : List (Option Value)) (st : List Value) (M : QM) : Option QR := q_D cs_X12_receiverOf oX12_receiverOf (0, 0) (true, pc, L, st, M, 0, 0)
noncomputable def mX12_receiverOf (as : List Value) (M : QM) : Option QR := cond (Nat.ble (q_sl as).length 2) (kX12_receiverOf 0 (q_L0 as 2) [] M) none
noncomputable def oX12_isThere : QO := fun y => cond (Nat.beq y 263) (mX12_has) (cond (Nat.beq y 344) (mX12_openFrom) (cond (Nat.beq y 345) (mX12_shortFrom) (cond (Nat.beq y 349) (mX12_pairOf) (cond (Nat.beq y 350) (mX12_shortKind) (cond (Nat.beq y 351) (mX12_receiverOf) (fun _ _ => none))))))
noncomputable def kX12_isThere (pc : Nat) (L : List (Option Value)) (st : List Value) (M : QM) : Option QR := q_D cs_X12_isThere oX12_isThere (0, 0) (true, pc, L, st, M, 0, 0)
noncomputable def mX12_isThere (as : List Value) (M : QM) : Option QR := cond (Nat.ble (q_sl as).length 2) (kX12_isThere 0 (q_L0 as 2) [] M) none
noncomputable def oX12_turn : QO := fun y => cond (Nat.beq y 344) (mX12_openFrom) (cond (Nat.beq y 345) (mX12_shortFrom) (cond (Nat.beq y 349) (mX12_pairOf) (cond (Nat.beq y 350) (mX12_shortKind) (cond (Nat.beq y 351) (mX12_receiverOf) (cond (Nat.beq y 352) (mX12_isThere) (fun _ _ => none))))))
noncomputable def kX12_turn (pc : Nat) (L : List (Option Value)) (st : List Value) (M : QM) : Option QR := q_D cs_X12_turn oX12_turn (0, 0) (true, pc, L, st, M, 0, 0)
noncomputable def mX12_turn (as : List Value) (M : QM) : Option QR := cond (Nat.ble (q_sl as).length 3) (kX12_turn 0 (q_L0 as 3) [] M) none
noncomputable def oX12_isBarred : QO := fun y => cond (Nat.beq y 344) (mX12_openFrom) (cond (Nat.beq y 345) (mX12_shortFrom) (cond (Nat.beq y 349) (mX12_pairOf) (cond (Nat.beq y 352) (mX12_isThere) (fun _ _ => none))))
noncomputable def kX12_isBarred (pc : Nat) (L : List (Option Value)) (st : List Value) (M : QM) : Option QR := q_D cs_X12_isBarred oX12_isBarred (0, 0) (true, pc, L, st, M, 0, 0)
noncomputable def mX12_isBarred (as : List Value) (M : QM) : Option QR := cond (Nat.ble (q_sl as).length 2) (kX12_isBarred 0 (q_L0 as 2) [] M) none
noncomputable def oX12_faultMany : QO := fun y => cond (Nat.beq y 260) (mX12_truth) (cond (Nat.beq y 346) (mX12_singleMany) (cond (Nat.beq y 352) (mX12_isThere) (fun _ _ => none)))
noncomputable def kX12_faultMany (pc : Nat) (L : List (Option Value)) (st : List Value) (M : QM) : Option QR := q_D cs_X12_faultMany oX12_faultMany (0, 0) (true, pc, L, st, M, 0, 0)
noncomputable def mX12_faultMany (as : List Value) (M : QM) : Option QR := cond (Nat.ble (q_sl as).length 3) (kX12_faultMany 0 (q_L0 as 3) [] M) none
noncomputable def oX12_harm : QO := fun y => cond (Nat.beq y 284) (mX12_fill) (cond (Nat.beq y 285) (mX12_keepAir) (cond (Nat.beq y 311) (mX12_act) (cond (Nat.beq y 348) (mX12_isSingle) (cond (Nat.beq y 353) (mX12_turn) (cond (Nat.beq y 354) (mX12_isBarred) (cond (Nat.beq y 355) (mX12_faultMany) (fun _ _ => none)))))))
noncomputable def kX12_harm (pc : Nat) (L : List (Option Value)) (st : List Value) (M : QM) : Option QR := q_D cs_X12_harm oX12_harm (0, 0) (true, pc, L, st, M, 0, 0)
noncomputable def mX12_harm (as : List Value) (M : QM) : Option QR := cond (Nat.ble (q_sl as).length 2) (kX12_harm 0 (q_L0 as 2) [] M) none
noncomputable def oX12_single : QO := fun y => cond (Nat.beq y 260) (mX12_truth) (cond (Nat.beq y 284) (mX12_fill) (cond (Nat.beq y 344) (mX12_openFrom) (cond (Nat.beq y 345) (mX12_shortFrom) (cond (Nat.beq y 348) (mX12_isSingle) (cond (Nat.beq y 349) (mX12_pairOf) (cond (Nat.beq y 351) (mX12_receiverOf) (cond (Nat.beq y 352) (mX12_isThere) (fun _ _ => none))))))))
noncomputable def kX12_single (pc : Nat) (L : List (Option Value)) (st : List Value) (M : QM) : Option QR := q_D cs_X12_single oX12_single (0, 0) (true, pc, L, st, M, 0, 0)
noncomputable def mX12_single (as : List Value) (M : QM) : Option QR := cond (Nat.ble (q_sl as).length 4) (kX12_single 0 (q_L0 as 4) [] M) none
noncomputable def oX12_layWhole : QO := fun y => cond (Nat.beq y 284) (mX12_fill) (cond (Nat.beq y 333) (mX12_layAnswers) (cond (Nat.beq y 353) (mX12_turn) (fun _ _ => none)))
noncomputable def kX12_layWhole (pc : Nat) (L : List (Option Value)) (st : List Value) (M : QM) : Option QR := q_D cs_X12_layWhole oX12_layWhole (0, 0) (true, pc, L, st, M, 0, 0)
noncomputable def mX12_layWhole (as : List Value) (M : QM) : Option QR := cond (Nat.ble (q_sl as).length 4) (kX12_layWhole 0 (q_L0 as 4) [] M) none
noncomputable def oX12_layTable : QO := fun y => cond (Nat.beq y 346) (mX12_singleMany) (cond (Nat.beq y 358) (mX12_layWhole) (fun _ _ => none))
noncomputable def kX12_layTable (pc : Nat) (L : List (Option Value)) (st : List Value) (M : QM) : Option QR := q_D cs_X12_layTable oX12_layTable (0, 0) (true, pc, L, st, M, 0, 0)
noncomputable def mX12_layTable (as : List Value) (M : QM) : Option QR := cond (Nat.ble (q_sl as).length 4) (kX12_layTable 0 (q_L0 as 4) [] M) none
noncomputable def oX12_areApart : QO := fun y => fun _ _ => none
noncomputable def kX12_areApart (pc : Nat) (L : List (Option Value)) (st : List Value) (M : QM) : Option QR := q_D cs_X12_areApart oX12_areApart (0, 0) (true, pc, L, st, M, 0, 0)
noncomputable def mX12_areApart (as : List Value) (M : QM) : Option QR := cond (Nat.ble (q_sl as).length 5) (kX12_areApart 0 (q_L0 as 5) [] M) none
noncomputable def oX12_apart : QO := fun y => cond (Nat.beq y 260) (mX12_truth) (cond (Nat.beq y 327) (mX12_isKind) (cond (Nat.beq y 348) (mX12_isSingle) (cond (Nat.beq y 359) (mX12_layTable) (cond (Nat.beq y 360) (mX12_areApart) (fun _ _ => none)))))
noncomputable def kX12_apart (pc : Nat) (L : List (Option Value)) (st : List Value) (M : QM) : Option QR := q_D cs_X12_apart oX12_apart (0, 0) (true, pc, L, st, M, 0, 0)
noncomputable def mX12_apart (as : List Value) (M : QM) : Option QR := cond (Nat.ble (q_sl as).length 4) (kX12_apart 0 (q_L0 as 4) [] M) none
noncomputable def oX12_told : QO := fun y => cond (Nat.beq y 260) (mX12_truth) (cond (Nat.beq y 264) (mX12_isIn) (cond (Nat.beq y 327) (mX12_isKind) (cond (Nat.beq y 346) (mX12_singleMany) (cond (Nat.beq y 359) (mX12_layTable) (cond (Nat.beq y 360) (mX12_areApart) (fun _ _ => none))))))
noncomputable def kX12_told (pc : Nat) (L : List (Option Value)) (st : List Value) (M : QM) : Option QR := q_D cs_X12_told oX12_told (0, 0) (true, pc, L, st, M, 0, 0)
noncomputable def mX12_told (as : List Value) (M : QM) : Option QR := cond (Nat.ble (q_sl as).length 7) (kX12_told 0 (q_L0 as 7) [] M) none
noncomputable def oX12_least : QO := fun y => cond (Nat.beq y 328) (mX12_stepsOf) (cond (Nat.beq y 346) (mX12_singleMany) (cond (Nat.beq y 362) (mX12_told) (fun _ _ => none)))
noncomputable def kX12_least (pc : Nat) (L : List (Option Value)) (st : List Value) (M : QM) : Option QR := q_D cs_X12_least oX12_least (0, 0) (true, pc, L, st, M, 0, 0)
noncomputable def mX12_least (as : List Value) (M : QM) : Option QR := cond (Nat.ble (q_sl as).length 3) (kX12_least 0 (q_L0 as 3) [] M) none
noncomputable def oX12_mendFirst : QO := fun y => cond (Nat.beq y 264) (mX12_isIn) (cond (Nat.beq y 284) (mX12_fill) (cond (Nat.beq y 333) (mX12_layAnswers) (cond (Nat.beq y 338) (mX12_goodMany) (cond (Nat.beq y 346) (mX12_singleMany) (cond (Nat.beq y 352) (mX12_isThere) (cond (Nat.beq y 353) (mX12_turn) (fun _ _ => none)))))))
noncomputable def kX12_mendFirst (pc : Nat) (L : List (Option Value)) (st : List Value) (M : QM) : Option QR := q_D cs_X12_mendFirst oX12_mendFirst (0, 0) (true, pc, L, st, M, 0, 0)
noncomputable def mX12_mendFirst (as : List Value) (M : QM) : Option QR := cond (Nat.ble (q_sl as).length 5) (kX12_mendFirst 0 (q_L0 as 5) [] M) none
noncomputable def oX12_readBy : QO := fun y => cond (Nat.beq y 260) (mX12_truth) (cond (Nat.beq y 298) (mX12_layLevels) (cond (Nat.beq y 302) (mX12_readsAt) (cond (Nat.beq y 335) (mX12_netAt) (fun _ _ => none))))
noncomputable def kX12_readBy (pc : Nat) (L : List (Option Value)) (st : List Value) (M : QM) : Option QR := q_D cs_X12_readBy oX12_readBy (0, 0) (true, pc, L, st, M, 0, 0)
noncomputable def mX12_readBy (as : List Value) (M : QM) : Option QR := cond (Nat.ble (q_sl as).length 4) (kX12_readBy 0 (q_L0 as 4) [] M) none
noncomputable def oX12_safest : QO := fun y => cond (Nat.beq y 264) (mX12_isIn) (cond (Nat.beq y 284) (mX12_fill) (cond (Nat.beq y 365) (mX12_readBy) (fun _ _ => none)))
noncomputable def kX12_safest (pc : Nat) (L : List (Option Value)) (st : List Value) (M : QM) : Option QR := q_D cs_X12_safest oX12_safest (0, 0) (true, pc, L, st, M, 0, 0)
noncomputable def mX12_safest (as : List Value) (M : QM) : Option QR := cond (Nat.ble (q_sl as).length 6) (kX12_safest 0 (q_L0 as 6) [] M) none
noncomputable def oX12_cost : QO := fun y => cond (Nat.beq y 327) (mX12_isKind) (cond (Nat.beq y 328) (mX12_stepsOf) (fun _ _ => none))
noncomputable def kX12_cost (pc : Nat) (L : List (Option Value)) (st : List Value) (M : QM) : Option QR := q_D cs_X12_cost oX12_cost (0, 0) (true, pc, L, st, M, 0, 0)
noncomputable def mX12_cost (as : List Value) (M : QM) : Option QR := cond (Nat.ble (q_sl as).length 5) (kX12_cost 0 (q_L0 as 5) [] M) none
noncomputable def oX12_worst : QO := fun y => cond (Nat.beq y 260) (mX12_truth) (cond (Nat.beq y 334) (mX12_layNow) (cond (Nat.beq y 335) (mX12_netAt) (cond (Nat.beq y 336) (mX12_isGood) (fun _ _ => none))))
noncomputable def kX12_worst (pc : Nat) (L : List (Option Value)) (st : List Value) (M : QM) : Option QR := q_D cs_X12_worst oX12_worst (0, 0) (true, pc, L, st, M, 0, 0)
noncomputable def mX12_worst (as : List Value) (M : QM) : Option QR := cond (Nat.ble (q_sl as).length 6) (kX12_worst 0 (q_L0 as 6) [] M) none
noncomputable def oX12_law : QO := fun y => cond (Nat.beq y 264) (mX12_isIn) (cond (Nat.beq y 334) (mX12_layNow) (cond (Nat.beq y 338) (mX12_goodMany) (fun _ _ => none)))
noncomputable def kX12_law (pc : Nat) (L : List (Option Value)) (st : List Value) (M : QM) : Option QR := q_D cs_X12_law oX12_law (0, 0) (true, pc, L, st, M, 0, 0)
noncomputable def mX12_law (as : List Value) (M : QM) : Option QR := cond (Nat.ble (q_sl as).length 2) (kX12_law 0 (q_L0 as 2) [] M) none
noncomputable def oX12_power : QO := fun y => fun _ _ => none
noncomputable def kX12_power (pc : Nat) (L : List (Option Value)) (st : List Value) (M : QM) : Option QR := q_D cs_X12_power oX12_power (0, 0) (true, pc, L, st, M, 0, 0)
noncomputable def mX12_power (as : List Value) (M : QM) : Option QR := cond (Nat.ble (q_sl as).length 4) (kX12_power 0 (q_L0 as 4) [] M) none
noncomputable def oX12_divisor : QO := fun y => fun _ _ => none
noncomputable def kX12_divisor (pc : Nat) (L : List (Option Value)) (st : List Value) (M : QM) : Option QR := q_D cs_X12_divisor oX12_divisor (0, 0) (true, pc, L, st, M, 0, 0)
noncomputable def mX12_divisor (as : List Value) (M : QM) : Option QR := cond (Nat.ble (q_sl as).length 5) (kX12_divisor 0 (q_L0 as 5) [] M) none
noncomputable def oX12_odds : QO := fun y => cond (Nat.beq y 264) (mX12_isIn) (cond (Nat.beq y 370) (mX12_power) (cond (Nat.beq y 371) (mX12_divisor) (fun _ _ => none)))
noncomputable def kX12_odds (pc : Nat) (L : List (Option Value)) (st : List Value) (M : QM) : Option QR := q_D cs_X12_odds oX12_odds (0, 0) (true, pc, L, st, M, 0, 0)
noncomputable def mX12_odds (as : List Value) (M : QM) : Option QR := cond (Nat.ble (q_sl as).length 6) (kX12_odds 0 (q_L0 as 6) [] M) none
noncomputable def oX12_lies : QO := fun y => cond (Nat.beq y 264) (mX12_isIn) (fun _ _ => none)
noncomputable def kX12_lies (pc : Nat) (L : List (Option Value)) (st : List Value) (M : QM) : Option QR := q_D cs_X12_lies oX12_lies (0, 0) (true, pc, L, st, M, 0, 0)
noncomputable def mX12_lies (as : List Value) (M : QM) : Option QR := cond (Nat.ble (q_sl as).length 2) (kX12_lies 0 (q_L0 as 2) [] M) none
noncomputable def oX12_seen : QO := fun y => cond (Nat.beq y 264) (mX12_isIn) (cond (Nat.beq y 279) (mX12_isCell) (cond (Nat.beq y 281) (mX12_placeOf) (cond (Nat.beq y 327) (mX12_isKind) (cond (Nat.beq y 328) (mX12_stepsOf) (fun _ _ => none)))))
noncomputable def kX12_seen (pc : Nat) (L : List (Option Value)) (st : List Value) (M : QM) : Option QR := q_D cs_X12_seen oX12_seen (0, 0) (true, pc, L, st, M, 0, 0)
noncomputable def mX12_seen (as : List Value) (M : QM) : Option QR := cond (Nat.ble (q_sl as).length 6) (kX12_seen 0 (q_L0 as 6) [] M) none
noncomputable def oX12_untell : QO := fun y => cond (Nat.beq y 264) (mX12_isIn) (fun _ _ => none)
noncomputable def kX12_untell (pc : Nat) (L : List (Option Value)) (st : List Value) (M : QM) : Option QR := q_D cs_X12_untell oX12_untell (0, 0) (true, pc, L, st, M, 0, 0)
noncomputable def mX12_untell (as : List Value) (M : QM) : Option QR := cond (Nat.ble (q_sl as).length 2) (kX12_untell 0 (q_L0 as 2) [] M) none
noncomputable def oX12_later : QO := fun y => fun _ _ => none
noncomputable def kX12_later (pc : Nat) (L : List (Option Value)) (st : List Value) (M : QM) : Option QR := q_D cs_X12_later oX12_later (0, 0) (true, pc, L, st, M, 0, 0)
noncomputable def mX12_later (as : List Value) (M : QM) : Option QR := cond (Nat.ble (q_sl as).length 2) (kX12_later 0 (q_L0 as 2) [] M) none
noncomputable def oX12_doesCount : QO := fun y => fun _ _ => none
noncomputable def kX12_doesCount (pc : Nat) (L : List (Option Value)) (st : List Value) (M : QM) : Option QR := q_D cs_X12_doesCount oX12_doesCount (0, 0) (true, pc, L, st, M, 0, 0)
noncomputable def mX12_doesCount (as : List Value) (M : QM) : Option QR := cond (Nat.ble (q_sl as).length 3) (kX12_doesCount 0 (q_L0 as 3) [] M) none
noncomputable def oX12_layFits : QO := fun y => cond (Nat.beq y 260) (mX12_truth) (cond (Nat.beq y 263) (mX12_has) (cond (Nat.beq y 346) (mX12_singleMany) (cond (Nat.beq y 359) (mX12_layTable) (cond (Nat.beq y 377) (mX12_doesCount) (fun _ _ => none)))))
noncomputable def kX12_layFits (pc : Nat) (L : List (Option Value)) (st : List Value) (M : QM) : Option QR := q_D cs_X12_layFits oX12_layFits (0, 0) (true, pc, L, st, M, 0, 0)
noncomputable def mX12_layFits (as : List Value) (M : QM) : Option QR := cond (Nat.ble (q_sl as).length 5) (kX12_layFits 0 (q_L0 as 5) [] M) none
noncomputable def oX12_fits : QO := fun y => cond (Nat.beq y 378) (mX12_layFits) (fun _ _ => none)
noncomputable def kX12_fits (pc : Nat) (L : List (Option Value)) (st : List Value) (M : QM) : Option QR := q_D cs_X12_fits oX12_fits (0, 0) (true, pc, L, st, M, 0, 0)
noncomputable def mX12_fits (as : List Value) (M : QM) : Option QR := cond (Nat.ble (q_sl as).length 2) (kX12_fits 0 (q_L0 as 2) [] M) none
noncomputable def oX12_culprit : QO := fun y => cond (Nat.beq y 260) (mX12_truth) (cond (Nat.beq y 264) (mX12_isIn) (cond (Nat.beq y 378) (mX12_layFits) (fun _ _ => none)))
noncomputable def kX12_culprit (pc : Nat) (L : List (Option Value)) (st : List Value) (M : QM) : Option QR := q_D cs_X12_culprit oX12_culprit (0, 0) (true, pc, L, st, M, 0, 0)
noncomputable def mX12_culprit (as : List Value) (M : QM) : Option QR := cond (Nat.ble (q_sl as).length 5) (kX12_culprit 0 (q_L0 as 5) [] M) none
noncomputable def oX12_readAlike : QO := fun y => cond (Nat.beq y 263) (mX12_has) (fun _ _ => none)
noncomputable def kX12_readAlike (pc : Nat) (L : List (Option Value)) (st : List Value) (M : QM) : Option QR := q_D cs_X12_readAlike oX12_readAlike (0, 0) (true, pc, L, st, M, 0, 0)
noncomputable def mX12_readAlike (as : List Value) (M : QM) : Option QR := cond (Nat.ble (q_sl as).length 6) (kX12_readAlike 0 (q_L0 as 6) [] M) none
noncomputable def oX12_leftBy : QO := fun y => cond (Nat.beq y 260) (mX12_truth) (cond (Nat.beq y 262) (mX12_greater) (cond (Nat.beq y 346) (mX12_singleMany) (cond (Nat.beq y 381) (mX12_readAlike) (fun _ _ => none))))
noncomputable def kX12_leftBy (pc : Nat) (L : List (Option Value)) (st : List Value) (M : QM) : Option QR := q_D cs_X12_leftBy oX12_leftBy (0, 0) (true, pc, L, st, M, 0, 0)
noncomputable def mX12_leftBy (as : List Value) (M : QM) : Option QR := cond (Nat.ble (q_sl as).length 6) (kX12_leftBy 0 (q_L0 as 6) [] M) none
noncomputable def oX12_ask : QO := fun y => cond (Nat.beq y 264) (mX12_isIn) (cond (Nat.beq y 327) (mX12_isKind) (cond (Nat.beq y 328) (mX12_stepsOf) (cond (Nat.beq y 359) (mX12_layTable) (cond (Nat.beq y 378) (mX12_layFits) (cond (Nat.beq y 382) (mX12_leftBy) (fun _ _ => none))))))
noncomputable def kX12_ask (pc : Nat) (L : List (Option Value)) (st : List Value) (M : QM) : Option QR := q_D cs_X12_ask oX12_ask (0, 0) (true, pc, L, st, M, 0, 0)
noncomputable def mX12_ask (as : List Value) (M : QM) : Option QR := cond (Nat.ble (q_sl as).length 8) (kX12_ask 0 (q_L0 as 8) [] M) none
noncomputable def oX12_isBox : QO := fun y => fun _ _ => none
noncomputable def kX12_isBox (pc : Nat) (L : List (Option Value)) (st : List Value) (M : QM) : Option QR := q_D cs_X12_isBox oX12_isBox (0, 0) (true, pc, L, st, M, 0, 0)
noncomputable def mX12_isBox (as : List Value) (M : QM) : Option QR := cond (Nat.ble (q_sl as).length 1) (kX12_isBox 0 (q_L0 as 1) [] M) none
noncomputable def oX12_image : QO := fun y => cond (Nat.beq y 384) (mX12_isBox) (fun _ _ => none)
noncomputable def kX12_image (pc : Nat) (L : List (Option Value)) (st : List Value) (M : QM) : Option QR := q_D cs_X12_image oX12_image (0, 0) (true, pc, L, st, M, 0, 0)
noncomputable def mX12_image (as : List Value) (M : QM) : Option QR := cond (Nat.ble (q_sl as).length 3) (kX12_image 0 (q_L0 as 3) [] M) none
noncomputable def oX12_back : QO := fun y => cond (Nat.beq y 384) (mX12_isBox) (fun _ _ => none)
noncomputable def kX12_back (pc : Nat) (L : List (Option Value)) (st : List Value) (M : QM) : Option QR := q_D cs_X12_back oX12_back (0, 0) (true, pc, L, st, M, 0, 0)
noncomputable def mX12_back (as : List Value) (M : QM) : Option QR := cond (Nat.ble (q_sl as).length 3) (kX12_back 0 (q_L0 as 3) [] M) none
noncomputable def oX12_faultsNow : QO := fun y => cond (Nat.beq y 284) (mX12_fill) (cond (Nat.beq y 355) (mX12_faultMany) (fun _ _ => none))
noncomputable def kX12_faultsNow (pc : Nat) (L : List (Option Value)) (st : List Value) (M : QM) : Option QR := q_D cs_X12_faultsNow oX12_faultsNow (0, 0) (true, pc, L, st, M, 0, 0)
noncomputable def mX12_faultsNow (as : List Value) (M : QM) : Option QR := cond (Nat.ble (q_sl as).length 1) (kX12_faultsNow 0 (q_L0 as 1) [] M) none
noncomputable def oX12_about : QO := fun y => cond (Nat.beq y 387) (mX12_faultsNow) (fun _ _ => none)
noncomputable def kX12_about (pc : Nat) (L : List (Option Value)) (st : List Value) (M : QM) : Option QR := q_D cs_X12_about oX12_about (0, 0) (true, pc, L, st, M, 0, 0)
noncomputable def mX12_about (as : List Value) (M : QM) : Option QR := cond (Nat.ble (q_sl as).length 2) (kX12_about 0 (q_L0 as 2) [] M) none
noncomputable def oL_law : QO := fun y => cond (Nat.beq y 169) (mX11_init) (cond (Nat.beq y 170) (mX11_feed) (cond (Nat.beq y 172) (mX11_end) (cond (Nat.beq y 173) (mX11_board) (cond (Nat.beq y 174) (mX11_fault) (cond (Nat.beq y 175) (mX11_device) (cond (Nat.beq y 176) (mX11_net) (cond (Nat.beq y 177) (mX11_cell) (cond (Nat.beq y 179) (mX11_clock) (cond (Nat.beq y 181) (mX11_scan) (cond (Nat.beq y 182) (mX11_harm) (cond (Nat.beq y 183) (mX11_undo) (cond (Nat.beq y 184) (mX11_redo) (cond (Nat.beq y 185) (mX11_goes) (cond (Nat.beq y 186) (mX11_walk) (cond (Nat.beq y 188) (mX11_walks) (cond (Nat.beq y 189) (mX11_farthest) (cond (Nat.beq y 190) (mX11_length) (cond (Nat.beq y 191) (mX11_found) (cond (Nat.beq y 192) (mX11_fights) (cond (Nat.beq y 193) (mX11_unsafe) (cond (Nat.beq y 195) (mX11_steps) (cond (Nat.beq y 196) (mX11_tells) (cond (Nat.beq y 198) (mX11_answer) (cond (Nat.beq y 199) (mX11_good) (cond (Nat.beq y 200) (mX11_aliased) (cond (Nat.beq y 201) (mX11_confounded) (cond (Nat.beq y 202) (mX11_verdict) (cond (Nat.beq y 203) (mX11_singles) (cond (Nat.beq y 204) (mX11_single) (cond (Nat.beq y 205) (mX11_apart) (cond (Nat.beq y 208) (mX11_told) (cond (Nat.beq y 209) (mX11_least) (cond (Nat.beq y 210) (mX11_mendFirst) (cond (Nat.beq y 211) (mX11_safest) (cond (Nat.beq y 212) (mX11_cost) (cond (Nat.beq y 213) (mX11_worst) (cond (Nat.beq y 214) (mX11_law) (cond (Nat.beq y 215) (mX11_odds) (cond (Nat.beq y 217) (mX11_lies) (cond (Nat.beq y 218) (mX11_seen) (cond (Nat.beq y 219) (mX11_untell) (cond (Nat.beq y 220) (mX11_later) (cond (Nat.beq y 221) (mX11_fits) (cond (Nat.beq y 222) (mX11_culprit) (cond (Nat.beq y 223) (mX11_ask) (cond (Nat.beq y 224) (mX11_image) (cond (Nat.beq y 225) (mX11_back) (cond (Nat.beq y 226) (mX11_about) (cond (Nat.beq y 227) (mX12_init) (cond (Nat.beq y 228) (mX12_feed) (cond (Nat.beq y 230) (mX12_end) (cond (Nat.beq y 275) (mX12_board) (cond (Nat.beq y 276) (mX12_fault) (cond (Nat.beq y 290) (mX12_walk) (cond (Nat.beq y 291) (mX12_walks) (cond (Nat.beq y 292) (mX12_farthest) (cond (Nat.beq y 293) (mX12_goes) (cond (Nat.beq y 313) (mX12_clock) (cond (Nat.beq y 314) (mX12_scan) (cond (Nat.beq y 315) (mX12_undo) (cond (Nat.beq y 316) (mX12_redo) (cond (Nat.beq y 317) (mX12_device) (cond (Nat.beq y 319) (mX12_net) (cond (Nat.beq y 320) (mX12_cell) (cond (Nat.beq y 321) (mX12_length) (cond (Nat.beq y 322) (mX12_found) (cond (Nat.beq y 323) (mX12_fights) (cond (Nat.beq y 324) (mX12_unsafe) (cond (Nat.beq y 329) (mX12_steps) (cond (Nat.beq y 332) (mX12_tells) (cond (Nat.beq y 339) (mX12_answer) (cond (Nat.beq y 340) (mX12_good) (cond (Nat.beq y 341) (mX12_aliased) (cond (Nat.beq y 342) (mX12_confounded) (cond (Nat.beq y 343) (mX12_verdict) (cond (Nat.beq y 347) (mX12_singles) (cond (Nat.beq y 356) (mX12_harm) (cond (Nat.beq y 357) (mX12_single) (cond (Nat.beq y 361) (mX12_apart) (cond (Nat.beq y 362) (mX12_told) (cond (Nat.beq y 363) (mX12_least) (cond (Nat.beq y 364) (mX12_mendFirst) (cond (Nat.beq y 366) (mX12_safest) (cond (Nat.beq y 367) (mX12_cost) (cond (Nat.beq y 368) (mX12_worst) (cond (Nat.beq y 369) (mX12_law) (cond (Nat.beq y 372) (mX12_odds) (cond (Nat.beq y 373) (mX12_lies) (cond (Nat.beq y 374) (mX12_seen) (cond (Nat.beq y 375) (mX12_untell) (cond (Nat.beq y 376) (mX12_later) (cond (Nat.beq y 379) (mX12_fits) (cond (Nat.beq y 380) (mX12_culprit) (cond (Nat.beq y 383) (mX12_ask) (cond (Nat.beq y 385) (mX12_image) (cond (Nat.beq y 386) (mX12_back) (cond (Nat.beq y 388) (mX12_about) (fun _ _ => none))))))))))))))))))))))))))))))))))))))))))))))))))))))))))))))))))))))))))))))))))))))))))))))))))
noncomputable def kL_law (pc : Nat) (L : List (Option Value)) (st : List Value) (M : QM) (ce sl : Nat) : Option QR := q_D cs_L_law oL_law (113, 13229) (true, pc, L, st, M, ce, sl)
noncomputable def mL_law (as : List Value) (M : QM) : Option QR := cond (Nat.ble (q_sl as).length 4) (kL_law 0 (q_L0 as 4) [] M 0 0) none
