def pg_t1 : Nat → Option (Nat × Nat) := fun a => (cond (Nat.blt a 122) (cond (Nat.blt a 61) (cond (Nat.blt a 32) (cond (Nat.blt a 16) (cond (Nat.blt a 9) (cond (Nat.blt a 6) (cond (Nat.blt a 4) (cond (Nat.beq a 2) (some (1, 10240)) none) (cond (Nat.blt a 5) (cond (Nat.beq a 4) (some (0, 151)) none) (cond (Nat.beq a 5) (some (0, 151)) none))) (cond (Nat.blt a 7) (cond (Nat.beq a 6) (some (0, 151)) none) (cond (Nat.blt a 8) (cond (Nat.beq a 7) (some (2, 151)) none) (cond (Nat.beq a 8) (some (0, 400)) none)))) (cond (Nat.blt a 12) (cond (Nat.blt a 10) (cond (Nat.beq a 9) (some (0, 400)) none) (cond (Nat.blt a 11) (cond (Nat.beq a 10) (some (0, 400)) none) (cond (Nat.beq a 11) (some (0, 4800)) none))) (cond (Nat.blt a 14) (cond (Nat.blt a 13) (cond (Nat.beq a 12) (some (0, 4800)) none) (cond (Nat.beq a 13) (some (0, 4800)) none)) (cond (Nat.blt a 15) (cond (Nat.beq a 14) (some (0, 4800)) none) (cond (Nat.beq a 15) (some (0, 24000)) none))))) (cond (Nat.blt a 24) (cond (Nat.blt a 20) (cond (Nat.blt a 18) (cond (Nat.beq a 16) (some (0, 24000)) none) (cond (Nat.blt a 19) (cond (Nat.beq a 18) (some (0, 81)) none) (cond (Nat.beq a 19) (some (0, 81)) none))) (cond (Nat.blt a 22) (cond (Nat.blt a 21) (cond (Nat.beq a 20) (some (0, 240)) none) (cond (Nat.beq a 21) (some (0, 240)) none)) (cond (Nat.blt a 23) (cond (Nat.beq a 22) (some (0, 240)) none) (cond (Nat.beq a 23) (some (0, 300)) none)))) (cond (Nat.blt a 28) (cond (Nat.blt a 25) (cond (Nat.beq a 24) (some (0, 300)) none) (cond (Nat.blt a 26) (cond (Nat.beq a 25) (some (0, 300)) none) (cond (Nat.beq a 26) (some (0, 300)) none))) (cond (Nat.blt a 30) (cond (Nat.blt a 29) (cond (Nat.beq a 28) (some (0, 60)) none) (cond (Nat.beq a 29) (some (4, 5)) none)) (cond (Nat.blt a 31) (cond (Nat.beq a 30) (some (0, 140)) none) (cond (Nat.beq a 31) (some (0, 140)) none)))))) (cond (Nat.blt a 47) (cond (Nat.blt a 39) (cond (Nat.blt a 35) (cond (Nat.blt a 33) (cond (Nat.beq a 32) (some (0, 140)) none) (cond (Nat.blt a 34) (cond (Nat.beq a 33) (some (0, 140)) none) (cond (Nat.beq a 34) (some (0, 140)) none))) (cond (Nat.blt a 36) (cond (Nat.beq a 35) (some (0, 5)) none) (cond (Nat.blt a 38) (cond (Nat.beq a 36) (some (0, 140)) none) (cond (Nat.beq a 38) (some (0, 20)) none)))) (cond (Nat.blt a 42) (cond (Nat.blt a 40) (cond (Nat.beq a 39) (some (0, 20)) none) (cond (Nat.blt a 41) (cond (Nat.beq a 40) (some (0, 20)) none) (cond (Nat.beq a 41) (some (0, 20)) none))) (cond (Nat.blt a 44) (cond (Nat.blt a 43) (cond (Nat.beq a 42) (some (0, 20)) none) (cond (Nat.beq a 43) (some (0, 260)) none)) (cond (Nat.blt a 45) (cond (Nat.beq a 44) (some (0, 260)) none) (cond (Nat.beq a 45) (some (0, 4)) none))))) (cond (Nat.blt a 54) (cond (Nat.blt a 50) (cond (Nat.blt a 48) (cond (Nat.beq a 47) (some (0, 61)) none) (cond (Nat.blt a 49) (cond (Nat.beq a 48) (some (0, 61)) none) (cond (Nat.beq a 49) (some (0, 61)) none))) (cond (Nat.blt a 52) (cond (Nat.blt a 51) (cond (Nat.beq a 50) (some (0, 601)) none) (cond (Nat.beq a 51) (some (0, 601)) none)) (cond (Nat.blt a 53) (cond (Nat.beq a 52) (some (0, 601)) none) (cond (Nat.beq a 53) (some (0, 601)) none)))) (cond (Nat.blt a 57) (cond (Nat.blt a 55) (cond (Nat.beq a 54) (some (0, 601)) none) (cond (Nat.blt a 56) (cond (Nat.beq a 55) (some (0, 601)) none) (cond (Nat.beq a 56) (some (2, 601)) none))) (cond (Nat.blt a 59) (cond (Nat.blt a 58) (cond (Nat.beq a 57) (some (0, 101)) none) (cond (Nat.beq a 58) (some (0, 101)) none)) (cond (Nat.blt a 60) (cond (Nat.beq a 59) (some (0, 101)) none) (cond (Nat.beq a 60) (some (0, 101)) none))))))) (cond (Nat.blt a 91) (cond (Nat.blt a 75) (cond (Nat.blt a 68) (cond (Nat.blt a 65) (cond (Nat.blt a 63) (cond (Nat.beq a 61) (some (2, 101)) none) (cond (Nat.blt a 64) (cond (Nat.beq a 63) (some (0, 201)) none) (cond (Nat.beq a 64) (some (0, 201)) none))) (cond (Nat.blt a 66) (cond (Nat.beq a 65) (some (0, 201)) none) (cond (Nat.blt a 67) (cond (Nat.beq a 66) (some (0, 201)) none) (cond (Nat.beq a 67) (some (0, 201)) none)))) (cond (Nat.blt a 71) (cond (Nat.blt a 69) (cond (Nat.beq a 68) (some (0, 201)) none) (cond (Nat.blt a 70) (cond (Nat.beq a 69) (some (0, 201)) none) (cond (Nat.beq a 70) (some (0, 201)) none))) (cond (Nat.blt a 73) (cond (Nat.blt a 72) (cond (Nat.beq a 71) (some (0, 201)) none) (cond (Nat.beq a 72) (some (3, 201)) none)) (cond (Nat.blt a 74) (cond (Nat.beq a 73) (some (0, 200)) none) (cond (Nat.beq a 74) (some (0, 200)) none))))) (cond (Nat.blt a 83) (cond (Nat.blt a 79) (cond (Nat.blt a 77) (cond (Nat.beq a 75) (some (0, 200)) none) (cond (Nat.blt a 78) (cond (Nat.beq a 77) (some (0, 21)) none) (cond (Nat.beq a 78) (some (0, 21)) none))) (cond (Nat.blt a 81) (cond (Nat.blt a 80) (cond (Nat.beq a 79) (some (0, 21)) none) (cond (Nat.beq a 80) (some (0, 6300)) none)) (cond (Nat.blt a 82) (cond (Nat.beq a 81) (some (0, 6300)) none) (cond (Nat.beq a 82) (some (0, 21)) none)))) (cond (Nat.blt a 86) (cond (Nat.blt a 84) (cond (Nat.beq a 83) (some (0, 21)) none) (cond (Nat.blt a 85) (cond (Nat.beq a 84) (some (0, 21)) none) (cond (Nat.beq a 85) (some (0, 21)) none))) (cond (Nat.blt a 88) (cond (Nat.blt a 87) (cond (Nat.beq a 86) (some (0, 151)) none) (cond (Nat.beq a 87) (some (0, 151)) none)) (cond (Nat.blt a 90) (cond (Nat.beq a 88) (some (0, 151)) none) (cond (Nat.beq a 90) (some (0, 31)) none)))))) (cond (Nat.blt a 107) (cond (Nat.blt a 99) (cond (Nat.blt a 95) (cond (Nat.blt a 92) (cond (Nat.beq a 91) (some (2, 6)) none) (cond (Nat.blt a 93) (cond (Nat.beq a 92) (some (2, 186)) none) (cond (Nat.beq a 93) (some (1, 37200)) none))) (cond (Nat.blt a 97) (cond (Nat.blt a 96) (cond (Nat.beq a 95) (some (0, 40)) none) (cond (Nat.beq a 96) (some (0, 48)) none)) (cond (Nat.blt a 98) (cond (Nat.beq a 97) (some (0, 20)) none) (cond (Nat.beq a 98) (some (0, 20)) none)))) (cond (Nat.blt a 102) (cond (Nat.blt a 100) (cond (Nat.beq a 99) (some (0, 20)) none) (cond (Nat.blt a 101) (cond (Nat.beq a 100) (some (2, 20)) none) (cond (Nat.beq a 101) (some (0, 20)) none))) (cond (Nat.blt a 104) (cond (Nat.blt a 103) (cond (Nat.beq a 102) (some (0, 80)) none) (cond (Nat.beq a 103) (some (2, 21)) none)) (cond (Nat.blt a 105) (cond (Nat.beq a 104) (some (0, 1200)) none) (cond (Nat.beq a 105) (some (0, 1200)) none))))) (cond (Nat.blt a 114) (cond (Nat.blt a 110) (cond (Nat.blt a 108) (cond (Nat.beq a 107) (some (1, 3000)) none) (cond (Nat.blt a 109) (cond (Nat.beq a 108) (some (0, 150)) none) (cond (Nat.beq a 109) (some (0, 150)) none))) (cond (Nat.blt a 112) (cond (Nat.blt a 111) (cond (Nat.beq a 110) (some (0, 150)) none) (cond (Nat.beq a 111) (some (0, 150)) none)) (cond (Nat.blt a 113) (cond (Nat.beq a 112) (some (0, 1800)) none) (cond (Nat.beq a 113) (some (0, 1800)) none)))) (cond (Nat.blt a 117) (cond (Nat.blt a 115) (cond (Nat.beq a 114) (some (0, 1800)) none) (cond (Nat.blt a 116) (cond (Nat.beq a 115) (some (2, 11)) none) (cond (Nat.beq a 116) (some (0, 11)) none))) (cond (Nat.blt a 119) (cond (Nat.blt a 118) (cond (Nat.beq a 117) (some (0, 11)) none) (cond (Nat.beq a 118) (some (0, 11)) none)) (cond (Nat.blt a 121) (cond (Nat.beq a 119) (some (0, 11)) none) (cond (Nat.beq a 121) (some (0, 20)) none)))))))) (cond (Nat.blt a 181) (cond (Nat.blt a 153) (cond (Nat.blt a 138) (cond (Nat.blt a 128) (cond (Nat.blt a 125) (cond (Nat.blt a 123) (cond (Nat.beq a 122) (some (0, 20)) none) (cond (Nat.blt a 124) (cond (Nat.beq a 123) (some (0, 20)) none) (cond (Nat.beq a 124) (some (0, 20)) none))) (cond (Nat.blt a 126) (cond (Nat.beq a 125) (some (0, 20)) none) (cond (Nat.blt a 127) (cond (Nat.beq a 126) (some (0, 260)) none) (cond (Nat.beq a 127) (some (0, 260)) none)))) (cond (Nat.blt a 134) (cond (Nat.blt a 130) (cond (Nat.beq a 128) (some (0, 3072)) none) (cond (Nat.blt a 133) (cond (Nat.beq a 130) (some (1, 2000)) none) (cond (Nat.beq a 133) (some (0, 151)) none))) (cond (Nat.blt a 136) (cond (Nat.blt a 135) (cond (Nat.beq a 134) (some (0, 151)) none) (cond (Nat.beq a 135) (some (0, 151)) none)) (cond (Nat.blt a 137) (cond (Nat.beq a 136) (some (0, 400)) none) (cond (Nat.beq a 137) (some (0, 400)) none))))) (cond (Nat.blt a 146) (cond (Nat.blt a 142) (cond (Nat.blt a 139) (cond (Nat.beq a 138) (some (0, 400)) none) (cond (Nat.blt a 141) (cond (Nat.beq a 139) (some (0, 400)) none) (cond (Nat.beq a 141) (some (0, 81)) none))) (cond (Nat.blt a 144) (cond (Nat.blt a 143) (cond (Nat.beq a 142) (some (0, 240)) none) (cond (Nat.beq a 143) (some (0, 240)) none)) (cond (Nat.blt a 145) (cond (Nat.beq a 144) (some (0, 240)) none) (cond (Nat.beq a 145) (some (1, 9600)) none)))) (cond (Nat.blt a 149) (cond (Nat.blt a 147) (cond (Nat.beq a 146) (some (0, 300)) none) (cond (Nat.blt a 148) (cond (Nat.beq a 147) (some (0, 300)) none) (cond (Nat.beq a 148) (some (0, 300)) none))) (cond (Nat.blt a 151) (cond (Nat.blt a 150) (cond (Nat.beq a 149) (some (0, 300)) none) (cond (Nat.beq a 150) (some (1, 4000)) none)) (cond (Nat.blt a 152) (cond (Nat.beq a 151) (some (1, 4000)) none) (cond (Nat.beq a 152) (some (0, 20)) none)))))) (cond (Nat.blt a 167) (cond (Nat.blt a 160) (cond (Nat.blt a 156) (cond (Nat.blt a 154) (cond (Nat.beq a 153) (some (0, 20)) none) (cond (Nat.blt a 155) (cond (Nat.beq a 154) (some (0, 20)) none) (cond (Nat.beq a 155) (some (0, 80)) none))) (cond (Nat.blt a 158) (cond (Nat.blt a 157) (cond (Nat.beq a 156) (some (0, 80)) none) (cond (Nat.beq a 157) (some (0, 60)) none)) (cond (Nat.blt a 159) (cond (Nat.beq a 158) (some (0, 60)) none) (cond (Nat.beq a 159) (some (2, 60)) none)))) (cond (Nat.blt a 163) (cond (Nat.blt a 161) (cond (Nat.beq a 160) (some (0, 150)) none) (cond (Nat.blt a 162) (cond (Nat.beq a 161) (some (1, 6000)) none) (cond (Nat.beq a 162) (some (0, 150)) none))) (cond (Nat.blt a 165) (cond (Nat.blt a 164) (cond (Nat.beq a 163) (some (1, 72000)) none) (cond (Nat.beq a 164) (some (0, 1800)) none)) (cond (Nat.blt a 166) (cond (Nat.beq a 165) (some (0, 1800)) none) (cond (Nat.beq a 166) (some (0, 1800)) none))))) (cond (Nat.blt a 174) (cond (Nat.blt a 170) (cond (Nat.blt a 168) (cond (Nat.beq a 167) (some (0, 61)) none) (cond (Nat.blt a 169) (cond (Nat.beq a 168) (some (0, 61)) none) (cond (Nat.beq a 169) (some (0, 201)) none))) (cond (Nat.blt a 172) (cond (Nat.blt a 171) (cond (Nat.beq a 170) (some (0, 201)) none) (cond (Nat.beq a 171) (some (0, 201)) none)) (cond (Nat.blt a 173) (cond (Nat.beq a 172) (some (0, 201)) none) (cond (Nat.beq a 173) (some (0, 201)) none)))) (cond (Nat.blt a 177) (cond (Nat.blt a 175) (cond (Nat.beq a 174) (some (0, 201)) none) (cond (Nat.blt a 176) (cond (Nat.beq a 175) (some (0, 201)) none) (cond (Nat.beq a 176) (some (0, 201)) none))) (cond (Nat.blt a 179) (cond (Nat.blt a 178) (cond (Nat.beq a 177) (some (0, 201)) none) (cond (Nat.beq a 178) (some (0, 61)) none)) (cond (Nat.blt a 180) (cond (Nat.beq a 179) (some (2, 201)) none) (cond (Nat.beq a 180) (some (0, 201)) none))))))) (cond (Nat.blt a 210) (cond (Nat.blt a 196) (cond (Nat.blt a 187) (cond (Nat.blt a 184) (cond (Nat.blt a 182) (cond (Nat.beq a 181) (some (1, 1005)) none) (cond (Nat.blt a 183) (cond (Nat.beq a 182) (some (1, 804)) none) (cond (Nat.beq a 183) (some (0, 48)) none))) (cond (Nat.blt a 185) (cond (Nat.beq a 184) (some (0, 48)) none) (cond (Nat.blt a 186) (cond (Nat.beq a 185) (some (0, 4)) none) (cond (Nat.beq a 186) (some (0, 101)) none)))) (cond (Nat.blt a 190) (cond (Nat.blt a 188) (cond (Nat.beq a 187) (some (0, 101)) none) (cond (Nat.blt a 189) (cond (Nat.beq a 188) (some (0, 101)) none) (cond (Nat.beq a 189) (some (0, 101)) none))) (cond (Nat.blt a 192) (cond (Nat.blt a 191) (cond (Nat.beq a 190) (some (2, 101)) none) (cond (Nat.beq a 191) (some (0, 30)) none)) (cond (Nat.blt a 193) (cond (Nat.beq a 192) (some (0, 30)) none) (cond (Nat.beq a 193) (some (0, 40)) none))))) (cond (Nat.blt a 203) (cond (Nat.blt a 199) (cond (Nat.blt a 197) (cond (Nat.beq a 196) (some (0, 150)) none) (cond (Nat.blt a 198) (cond (Nat.beq a 197) (some (0, 24)) none) (cond (Nat.beq a 198) (some (1, 320)) none))) (cond (Nat.blt a 201) (cond (Nat.blt a 200) (cond (Nat.beq a 199) (some (0, 24)) none) (cond (Nat.beq a 200) (some (1, 320)) none)) (cond (Nat.blt a 202) (cond (Nat.beq a 201) (some (2, 151)) none) (cond (Nat.beq a 202) (some (1, 60)) none)))) (cond (Nat.blt a 206) (cond (Nat.blt a 204) (cond (Nat.beq a 203) (some (0, 3)) none) (cond (Nat.blt a 205) (cond (Nat.beq a 204) (some (0, 601)) none) (cond (Nat.beq a 205) (some (0, 601)) none))) (cond (Nat.blt a 208) (cond (Nat.blt a 207) (cond (Nat.beq a 206) (some (0, 601)) none) (cond (Nat.beq a 207) (some (0, 601)) none)) (cond (Nat.blt a 209) (cond (Nat.beq a 208) (some (0, 601)) none) (cond (Nat.beq a 209) (some (0, 601)) none)))))) (cond (Nat.blt a 224) (cond (Nat.blt a 217) (cond (Nat.blt a 213) (cond (Nat.blt a 211) (cond (Nat.beq a 210) (some (2, 601)) none) (cond (Nat.blt a 212) (cond (Nat.beq a 211) (some (0, 140)) none) (cond (Nat.beq a 212) (some (0, 140)) none))) (cond (Nat.blt a 215) (cond (Nat.blt a 214) (cond (Nat.beq a 213) (some (0, 60)) none) (cond (Nat.beq a 214) (some (0, 200)) none)) (cond (Nat.blt a 216) (cond (Nat.beq a 215) (some (0, 200)) none) (cond (Nat.beq a 216) (some (0, 200)) none)))) (cond (Nat.blt a 220) (cond (Nat.blt a 218) (cond (Nat.beq a 217) (some (0, 21)) none) (cond (Nat.blt a 219) (cond (Nat.beq a 218) (some (0, 21)) none) (cond (Nat.beq a 219) (some (0, 21)) none))) (cond (Nat.blt a 222) (cond (Nat.blt a 221) (cond (Nat.beq a 220) (some (0, 6300)) none) (cond (Nat.beq a 221) (some (0, 6300)) none)) (cond (Nat.blt a 223) (cond (Nat.beq a 222) (some (0, 21)) none) (cond (Nat.beq a 223) (some (0, 21)) none))))) (cond (Nat.blt a 231) (cond (Nat.blt a 227) (cond (Nat.blt a 225) (cond (Nat.beq a 224) (some (0, 21)) none) (cond (Nat.blt a 226) (cond (Nat.beq a 225) (some (0, 151)) none) (cond (Nat.beq a 226) (some (0, 151)) none))) (cond (Nat.blt a 229) (cond (Nat.blt a 228) (cond (Nat.beq a 227) (some (0, 151)) none) (cond (Nat.beq a 228) (some (0, 31)) none)) (cond (Nat.blt a 230) (cond (Nat.beq a 229) (some (2, 6)) none) (cond (Nat.beq a 230) (some (2, 186)) none)))) (cond (Nat.blt a 234) (cond (Nat.blt a 232) (cond (Nat.beq a 231) (some (1, 37200)) none) (cond (Nat.blt a 233) (cond (Nat.beq a 232) (some (2, 11)) none) (cond (Nat.beq a 233) (some (0, 11)) none))) (cond (Nat.blt a 236) (cond (Nat.blt a 235) (cond (Nat.beq a 234) (some (0, 11)) none) (cond (Nat.beq a 235) (some (0, 11)) none)) (cond (Nat.blt a 237) (cond (Nat.beq a 236) (some (0, 11)) none) (cond (Nat.beq a 237) (some (0, 400)) none)))))))))
def pg_fo0 : Nat → Nat × Nat := fun k => (cond (Nat.blt k 9) (cond (Nat.blt k 4) (cond (Nat.blt k 2) (cond (Nat.blt k 1) (1, 1) (1, 3)) (cond (Nat.blt k 3) (1, 17) (1, 27))) (cond (Nat.blt k 6) (cond (Nat.blt k 5) (1, 46) (1, 62)) (cond (Nat.blt k 7) (1, 76) (cond (Nat.blt k 8) (1, 89) (1, 94))))) (cond (Nat.blt k 14) (cond (Nat.blt k 11) (cond (Nat.blt k 10) (1, 106) (1, 120)) (cond (Nat.blt k 12) (1, 128) (cond (Nat.blt k 13) (0, 0) (0, 0)))) (cond (Nat.blt k 16) (cond (Nat.blt k 15) (0, 0) (0, 2)) (cond (Nat.blt k 17) (0, 0) (cond (Nat.blt k 18) (0, 0) (0, 0))))))
def pg_fo1 : Nat → Nat × Nat := fun k => (cond (Nat.blt k 3) (cond (Nat.blt k 1) (1, 2) (cond (Nat.blt k 2) (0, 0) (0, 0))) (cond (Nat.blt k 5) (cond (Nat.blt k 4) (0, 0) (0, 0)) (cond (Nat.blt k 6) (0, 0) (0, 0))))
def pg_fo3 : Nat → Nat × Nat := fun k => (cond (Nat.blt k 7) (cond (Nat.blt k 3) (cond (Nat.blt k 1) (0, 0) (cond (Nat.blt k 2) (1, 4) (1, 5))) (cond (Nat.blt k 5) (cond (Nat.blt k 4) (1, 6) (1, 7)) (cond (Nat.blt k 6) (0, 0) (1, 8)))) (cond (Nat.blt k 11) (cond (Nat.blt k 9) (cond (Nat.blt k 8) (1, 9) (1, 10)) (cond (Nat.blt k 10) (1, 11) (1, 12))) (cond (Nat.blt k 13) (cond (Nat.blt k 12) (1, 13) (1, 14)) (cond (Nat.blt k 14) (1, 15) (1, 16)))))
def pg_fo17 : Nat → Nat × Nat := fun k => (cond (Nat.blt k 6) (cond (Nat.blt k 3) (cond (Nat.blt k 1) (0, 0) (cond (Nat.blt k 2) (1, 18) (1, 19))) (cond (Nat.blt k 4) (0, 0) (cond (Nat.blt k 5) (1, 20) (1, 21)))) (cond (Nat.blt k 9) (cond (Nat.blt k 7) (1, 22) (cond (Nat.blt k 8) (0, 0) (1, 23))) (cond (Nat.blt k 10) (1, 24) (cond (Nat.blt k 11) (1, 25) (1, 26)))))
def pg_fo27 : Nat → Nat × Nat := fun k => (cond (Nat.blt k 5) (cond (Nat.blt k 2) (cond (Nat.blt k 1) (1, 1) (0, 0)) (cond (Nat.blt k 3) (0, 2) (cond (Nat.blt k 4) (1, 28) (0, 0)))) (cond (Nat.blt k 7) (cond (Nat.blt k 6) (1, 29) (1, 35)) (cond (Nat.blt k 8) (1, 36) (cond (Nat.blt k 9) (1, 37) (1, 45)))))
def pg_fo37 : Nat → Nat × Nat := fun k => (cond (Nat.blt k 4) (cond (Nat.blt k 2) (cond (Nat.blt k 1) (0, 0) (1, 38)) (cond (Nat.blt k 3) (1, 39) (1, 40))) (cond (Nat.blt k 6) (cond (Nat.blt k 5) (1, 41) (1, 42)) (cond (Nat.blt k 7) (1, 43) (1, 44))))
def pg_fo46 : Nat → Nat × Nat := fun k => (cond (Nat.blt k 9) (cond (Nat.blt k 4) (cond (Nat.blt k 2) (cond (Nat.blt k 1) (0, 0) (1, 47)) (cond (Nat.blt k 3) (1, 48) (1, 49))) (cond (Nat.blt k 6) (cond (Nat.blt k 5) (0, 0) (1, 50)) (cond (Nat.blt k 7) (1, 51) (cond (Nat.blt k 8) (1, 52) (1, 53))))) (cond (Nat.blt k 13) (cond (Nat.blt k 11) (cond (Nat.blt k 10) (1, 54) (1, 55)) (cond (Nat.blt k 12) (1, 56) (0, 0))) (cond (Nat.blt k 15) (cond (Nat.blt k 14) (1, 57) (1, 58)) (cond (Nat.blt k 16) (1, 59) (cond (Nat.blt k 17) (1, 60) (1, 61))))))
def pg_fo62 : Nat → Nat × Nat := fun k => (cond (Nat.blt k 9) (cond (Nat.blt k 4) (cond (Nat.blt k 2) (cond (Nat.blt k 1) (1, 3) (1, 27)) (cond (Nat.blt k 3) (1, 46) (0, 0))) (cond (Nat.blt k 6) (cond (Nat.blt k 5) (1, 63) (1, 64)) (cond (Nat.blt k 7) (1, 65) (cond (Nat.blt k 8) (1, 66) (1, 67))))) (cond (Nat.blt k 13) (cond (Nat.blt k 11) (cond (Nat.blt k 10) (1, 68) (1, 69)) (cond (Nat.blt k 12) (1, 70) (1, 71))) (cond (Nat.blt k 15) (cond (Nat.blt k 14) (1, 72) (0, 0)) (cond (Nat.blt k 16) (1, 73) (cond (Nat.blt k 17) (1, 74) (1, 75))))))
def pg_fo76 : Nat → Nat × Nat := fun k => (cond (Nat.blt k 7) (cond (Nat.blt k 3) (cond (Nat.blt k 1) (0, 0) (cond (Nat.blt k 2) (1, 77) (1, 78))) (cond (Nat.blt k 5) (cond (Nat.blt k 4) (1, 79) (1, 80)) (cond (Nat.blt k 6) (1, 81) (1, 82)))) (cond (Nat.blt k 11) (cond (Nat.blt k 9) (cond (Nat.blt k 8) (0, 0) (1, 83)) (cond (Nat.blt k 10) (1, 84) (1, 85))) (cond (Nat.blt k 13) (cond (Nat.blt k 12) (0, 0) (1, 86)) (cond (Nat.blt k 14) (1, 87) (1, 88)))))
def pg_fo89 : Nat → Nat × Nat := fun k => (cond (Nat.blt k 2) (cond (Nat.blt k 1) (0, 0) (1, 90)) (cond (Nat.blt k 3) (1, 91) (cond (Nat.blt k 4) (1, 92) (1, 93))))
def pg_fo94 : Nat → Nat × Nat := fun k => (cond (Nat.blt k 9) (cond (Nat.blt k 4) (cond (Nat.blt k 2) (cond (Nat.blt k 1) (1, 1) (1, 17)) (cond (Nat.blt k 3) (1, 95) (0, 0))) (cond (Nat.blt k 6) (cond (Nat.blt k 5) (1, 96) (0, 0)) (cond (Nat.blt k 7) (0, 0) (cond (Nat.blt k 8) (1, 97) (1, 98))))) (cond (Nat.blt k 13) (cond (Nat.blt k 11) (cond (Nat.blt k 10) (1, 99) (1, 100)) (cond (Nat.blt k 12) (1, 101) (0, 0))) (cond (Nat.blt k 15) (cond (Nat.blt k 14) (1, 102) (1, 103)) (cond (Nat.blt k 16) (0, 0) (cond (Nat.blt k 17) (1, 104) (1, 105))))))
def pg_fo106 : Nat → Nat × Nat := fun k => (cond (Nat.blt k 9) (cond (Nat.blt k 4) (cond (Nat.blt k 2) (cond (Nat.blt k 1) (1, 1) (1, 107)) (cond (Nat.blt k 3) (0, 0) (1, 108))) (cond (Nat.blt k 6) (cond (Nat.blt k 5) (0, 0) (1, 109)) (cond (Nat.blt k 7) (1, 110) (cond (Nat.blt k 8) (1, 111) (0, 0))))) (cond (Nat.blt k 13) (cond (Nat.blt k 11) (cond (Nat.blt k 10) (0, 0) (1, 112)) (cond (Nat.blt k 12) (1, 113) (1, 114))) (cond (Nat.blt k 15) (cond (Nat.blt k 14) (1, 115) (1, 116)) (cond (Nat.blt k 16) (1, 117) (cond (Nat.blt k 17) (1, 118) (1, 119))))))
def pg_fo120 : Nat → Nat × Nat := fun k => (cond (Nat.blt k 4) (cond (Nat.blt k 2) (cond (Nat.blt k 1) (0, 0) (1, 121)) (cond (Nat.blt k 3) (1, 122) (1, 123))) (cond (Nat.blt k 6) (cond (Nat.blt k 5) (1, 124) (1, 125)) (cond (Nat.blt k 7) (1, 126) (1, 127))))
def pg_fo129 : Nat → Nat × Nat := fun k => (cond (Nat.blt k 80) (cond (Nat.blt k 40) (cond (Nat.blt k 20) (cond (Nat.blt k 10) (cond (Nat.blt k 5) (cond (Nat.blt k 2) (cond (Nat.blt k 1) (1, 130) (0, 0)) (cond (Nat.blt k 3) (0, 0) (cond (Nat.blt k 4) (0, 0) (0, 2)))) (cond (Nat.blt k 7) (cond (Nat.blt k 6) (2, 0) (2, 1)) (cond (Nat.blt k 8) (0, 0) (cond (Nat.blt k 9) (0, 0) (0, 0))))) (cond (Nat.blt k 15) (cond (Nat.blt k 12) (cond (Nat.blt k 11) (0, 2) (0, 0)) (cond (Nat.blt k 13) (0, 0) (cond (Nat.blt k 14) (0, 0) (1, 133)))) (cond (Nat.blt k 17) (cond (Nat.blt k 16) (1, 134) (1, 135)) (cond (Nat.blt k 18) (0, 0) (cond (Nat.blt k 19) (1, 136) (1, 137)))))) (cond (Nat.blt k 30) (cond (Nat.blt k 25) (cond (Nat.blt k 22) (cond (Nat.blt k 21) (1, 138) (1, 139)) (cond (Nat.blt k 23) (2, 2) (cond (Nat.blt k 24) (0, 0) (0, 0)))) (cond (Nat.blt k 27) (cond (Nat.blt k 26) (1, 141) (0, 0)) (cond (Nat.blt k 28) (1, 142) (cond (Nat.blt k 29) (1, 143) (1, 144))))) (cond (Nat.blt k 35) (cond (Nat.blt k 32) (cond (Nat.blt k 31) (1, 145) (0, 0)) (cond (Nat.blt k 33) (1, 146) (cond (Nat.blt k 34) (1, 147) (1, 148)))) (cond (Nat.blt k 37) (cond (Nat.blt k 36) (1, 149) (1, 150)) (cond (Nat.blt k 38) (0, 0) (cond (Nat.blt k 39) (1, 151) (0, 0))))))) (cond (Nat.blt k 60) (cond (Nat.blt k 50) (cond (Nat.blt k 45) (cond (Nat.blt k 42) (cond (Nat.blt k 41) (0, 0) (1, 152)) (cond (Nat.blt k 43) (1, 153) (cond (Nat.blt k 44) (1, 154) (1, 155)))) (cond (Nat.blt k 47) (cond (Nat.blt k 46) (1, 156) (0, 0)) (cond (Nat.blt k 48) (1, 157) (cond (Nat.blt k 49) (0, 0) (1, 158))))) (cond (Nat.blt k 55) (cond (Nat.blt k 52) (cond (Nat.blt k 51) (1, 159) (0, 0)) (cond (Nat.blt k 53) (1, 160) (cond (Nat.blt k 54) (1, 161) (1, 162)))) (cond (Nat.blt k 57) (cond (Nat.blt k 56) (0, 0) (0, 0)) (cond (Nat.blt k 58) (0, 0) (cond (Nat.blt k 59) (0, 2) (0, 0)))))) (cond (Nat.blt k 70) (cond (Nat.blt k 65) (cond (Nat.blt k 62) (cond (Nat.blt k 61) (0, 0) (1, 163)) (cond (Nat.blt k 63) (1, 164) (cond (Nat.blt k 64) (1, 165) (1, 166)))) (cond (Nat.blt k 67) (cond (Nat.blt k 66) (0, 0) (1, 167)) (cond (Nat.blt k 68) (1, 168) (cond (Nat.blt k 69) (0, 0) (1, 169))))) (cond (Nat.blt k 75) (cond (Nat.blt k 72) (cond (Nat.blt k 71) (1, 170) (1, 171)) (cond (Nat.blt k 73) (1, 172) (cond (Nat.blt k 74) (1, 173) (1, 174)))) (cond (Nat.blt k 77) (cond (Nat.blt k 76) (1, 175) (1, 176)) (cond (Nat.blt k 78) (1, 177) (cond (Nat.blt k 79) (1, 178) (1, 179)))))))) (cond (Nat.blt k 120) (cond (Nat.blt k 100) (cond (Nat.blt k 90) (cond (Nat.blt k 85) (cond (Nat.blt k 82) (cond (Nat.blt k 81) (1, 180) (1, 181)) (cond (Nat.blt k 83) (1, 182) (cond (Nat.blt k 84) (0, 0) (1, 183)))) (cond (Nat.blt k 87) (cond (Nat.blt k 86) (1, 184) (1, 185)) (cond (Nat.blt k 88) (0, 0) (cond (Nat.blt k 89) (1, 186) (1, 187))))) (cond (Nat.blt k 95) (cond (Nat.blt k 92) (cond (Nat.blt k 91) (1, 188) (1, 189)) (cond (Nat.blt k 93) (1, 190) (cond (Nat.blt k 94) (0, 0) (1, 191)))) (cond (Nat.blt k 97) (cond (Nat.blt k 96) (1, 192) (0, 2)) (cond (Nat.blt k 98) (0, 0) (cond (Nat.blt k 99) (1, 193) (2, 3)))))) (cond (Nat.blt k 110) (cond (Nat.blt k 105) (cond (Nat.blt k 102) (cond (Nat.blt k 101) (0, 0) (2, 4)) (cond (Nat.blt k 103) (0, 2) (cond (Nat.blt k 104) (1, 196) (0, 0)))) (cond (Nat.blt k 107) (cond (Nat.blt k 106) (1, 197) (1, 198)) (cond (Nat.blt k 108) (1, 199) (cond (Nat.blt k 109) (1, 200) (1, 201))))) (cond (Nat.blt k 115) (cond (Nat.blt k 112) (cond (Nat.blt k 111) (1, 202) (0, 0)) (cond (Nat.blt k 113) (0, 0) (cond (Nat.blt k 114) (1, 203) (0, 0)))) (cond (Nat.blt k 117) (cond (Nat.blt k 116) (1, 204) (1, 205)) (cond (Nat.blt k 118) (1, 206) (cond (Nat.blt k 119) (1, 207) (1, 208))))))) (cond (Nat.blt k 140) (cond (Nat.blt k 130) (cond (Nat.blt k 125) (cond (Nat.blt k 122) (cond (Nat.blt k 121) (1, 209) (1, 210)) (cond (Nat.blt k 123) (0, 0) (cond (Nat.blt k 124) (1, 211) (1, 212)))) (cond (Nat.blt k 127) (cond (Nat.blt k 126) (0, 0) (1, 213)) (cond (Nat.blt k 128) (0, 0) (cond (Nat.blt k 129) (1, 214) (1, 215))))) (cond (Nat.blt k 135) (cond (Nat.blt k 132) (cond (Nat.blt k 131) (1, 216) (0, 0)) (cond (Nat.blt k 133) (1, 217) (cond (Nat.blt k 134) (1, 218) (1, 219)))) (cond (Nat.blt k 137) (cond (Nat.blt k 136) (1, 220) (1, 221)) (cond (Nat.blt k 138) (0, 0) (cond (Nat.blt k 139) (0, 0) (0, 0)))))) (cond (Nat.blt k 150) (cond (Nat.blt k 145) (cond (Nat.blt k 142) (cond (Nat.blt k 141) (0, 0) (1, 222)) (cond (Nat.blt k 143) (1, 223) (cond (Nat.blt k 144) (1, 224) (0, 0)))) (cond (Nat.blt k 147) (cond (Nat.blt k 146) (1, 225) (1, 226)) (cond (Nat.blt k 148) (1, 227) (cond (Nat.blt k 149) (0, 0) (1, 228))))) (cond (Nat.blt k 155) (cond (Nat.blt k 152) (cond (Nat.blt k 151) (1, 229) (1, 230)) (cond (Nat.blt k 153) (1, 231) (cond (Nat.blt k 154) (1, 232) (1, 233)))) (cond (Nat.blt k 157) (cond (Nat.blt k 156) (1, 234) (1, 235)) (cond (Nat.blt k 158) (1, 236) (cond (Nat.blt k 159) (1, 237) (0, 0)))))))))
def pg_t3 : Nat → Option (Nat × Nat × (Nat → Nat × Nat)) := fun a => cond (Nat.blt a 238) (cond (Nat.blt a 62) (cond (Nat.blt a 17) (cond (Nat.blt a 1) (cond (Nat.beq a 0) (some (11, 19, pg_fo0)) none) (cond (Nat.blt a 3) (cond (Nat.beq a 1) (some (10, 7, pg_fo1)) none) (cond (Nat.beq a 3) (some (2, 15, pg_fo3)) none))) (cond (Nat.blt a 37) (cond (Nat.blt a 27) (cond (Nat.beq a 17) (some (0, 12, pg_fo17)) none) (cond (Nat.beq a 27) (some (8, 10, pg_fo27)) none)) (cond (Nat.blt a 46) (cond (Nat.beq a 37) (some (4, 8, pg_fo37)) none) (cond (Nat.beq a 46) (some (7, 18, pg_fo46)) none)))) (cond (Nat.blt a 94) (cond (Nat.blt a 76) (cond (Nat.beq a 62) (some (5, 18, pg_fo62)) none) (cond (Nat.blt a 89) (cond (Nat.beq a 76) (some (1, 15, pg_fo76)) none) (cond (Nat.beq a 89) (some (9, 5, pg_fo89)) none))) (cond (Nat.blt a 120) (cond (Nat.blt a 106) (cond (Nat.beq a 94) (some (6, 18, pg_fo94)) none) (cond (Nat.beq a 106) (some (3, 18, pg_fo106)) none)) (cond (Nat.blt a 129) (cond (Nat.beq a 120) (some (4, 8, pg_fo120)) none) (cond (Nat.beq a 129) (some (12, 160, pg_fo129)) none))))) none
def pg_t2 : Nat → Option (Nat × Nat × (Nat → Nat × Nat)) := fun a => (pg_t3 a).map (fun q => (q.1, q.2.1, fun k => cond (Nat.blt k q.2.1) (q.2.2 k) (9, 0)))
def pg_T : w_T := (fun a => cond (Nat.blt a 238) (pg_t1 a) none, pg_t2)
def pg_dk : List (Nat × Nat × Nat) := [(129, 5, 0), (129, 6, 1), (129, 22, 2), (129, 99, 3), (129, 101, 4)]
theorem pg_dk1 : (List.range 238).all (fun a => match pg_t3 a with
  | some q => (List.range q.2.1).all (fun k => !(Nat.beq (q.2.2 k).1 2) || pg_dk.contains (a, k, (q.2.2 k).2))
  | none => true) = true := by decide +kernel
theorem pg_dk2 : ∀ p ∈ pg_dk, ∀ q ∈ pg_dk, p.2.2 = q.2.2 → p.1 = q.1 ∧ p.2.1 = q.2.1 := by decide +kernel
theorem pg_dk3 {a ci n k j : Nat} {fk : Nat → Nat × Nat} (h : pg_t2 a = some (ci, n, fk)) (hk : fk k = (2, j)) : (a, k, j) ∈ pg_dk := by
  unfold pg_t2 at h
  cases hf : pg_t3 a with
  | none => rw [hf] at h; cases h
  | some q =>
    rw [hf] at h
    cases h
    have hk : cond (Nat.blt k q.2.1) (q.2.2 k) (9, 0) = (2, j) := hk
    have ha : a < 238 := by
      unfold pg_t3 at hf
      cases hb : Nat.blt a 238 with
      | false => rw [hb] at hf; cases hf
      | true => exact Nat.le_of_ble_eq_true hb
    cases hb : Nat.blt k q.2.1 with
    | false => rw [hb] at hk; cases hk
    | true =>
      rw [hb] at hk
      have hk : q.2.2 k = (2, j) := hk
      have h1 := List.all_eq_true.mp pg_dk1 a (List.mem_range.mpr ha)
      rw [hf] at h1
      have h2 := List.all_eq_true.mp h1 k (List.mem_range.mpr (Nat.le_of_ble_eq_true hb))
      rw [hk] at h2
      have h3 : (!(Nat.beq 2 2) || pg_dk.contains (a, k, j)) = true := h2
      have h4 : pg_dk.contains (a, k, j) = true := by simpa using h3
      exact List.contains_iff_mem.mp h4
theorem pg_t1k : ∀ a, a < 238 → ∀ q, pg_t1 a = some q → q.1 ≤ 4 := by
  have h : (List.range 238).all (fun a => match pg_t1 a with
    | some q => decide (q.1 ≤ 4)
    | none => true) = true := by decide +kernel
  intro a ha q hq
  have := List.all_eq_true.mp h a (List.mem_range.mpr ha)
  rw [hq] at this
  exact of_decide_eq_true this
theorem pg_TU : w_TU pg_T := by
  refine ⟨fun a ci n fk a' ci' n' fk' k k' j h h' hk hk' => ?_, fun a t n h => ?_⟩
  · exact pg_dk2 _ (pg_dk3 h hk) _ (pg_dk3 h' hk') rfl
  · have h : cond (Nat.blt a 238) (pg_t1 a) none = some (t, n) := h
    cases hb : Nat.blt a 238 with
    | false => rw [hb] at h; cases h
    | true =>
      rw [hb] at h
      exact pg_t1k a (Nat.le_of_ble_eq_true hb) (t, n) h
def B_law_0 : Nat := 6111107929003458259247048831422655240329404916012970388040499563815586307172457015867867135
def B_C_feed_0 : Nat := 6
def B_Tape_hasRoom_1 : Nat := 0
def B_Tape_put_1 : Nat := 6
def B_C_end_0 : Nat := 2
def B_C_tick_0 : Nat := 679240535883668880964832086005316059131
def B_C_act_0 : Nat := 679240535883668880964832086005316059131
def B_Tape_openText_1 : Nat := 2
def B_C_perform_0 : Nat := 338958168962730417501457478573547847675
def B_Lending_passTo_62 : Nat := 69622623855382781493248
def B_Lending_firstArrival_62 : Nat := 0
def B_Lending_direct_62 : Nat := 2767011646240804831232
def B_RuleBook_arrivalDay_27 : Nat := 35184372088832
def B_Arrays_fill_35 : Nat := 34359738368
def B_Arrays_fill_45 : Nat := 35184372088832
def B_Arrays_fill_82 : Nat := 4835703278458516698824704
def B_Lending_setStatus_62 : Nat := 405828369621610135552
def B_Lending_settle_62 : Nat := 69622623855382647275520
def B_Lending_takeFirstQueued_62 : Nat := 66117742446193460379648
def B_Lending_removeQueued_62 : Nat := 66117742446193460379648
def B_C_dropRecord_0 : Nat := 96
def B_Catalog_isThere_3 : Nat := 0
def B_Lending_hasCopyLeft_62 : Nat := 0
def B_Buying_hasSerial_76 : Nat := 0
def B_Lending_queueLength_62 : Nat := 0
def B_Catalog_setGone_3 : Nat := 96
def B_Authority_setBroader_17 : Nat := 262144
def B_Authority_has_17 : Nat := 0
def B_Authority_isUnder_17 : Nat := 0
def B_C_linkField_0 : Nat := 338953138925153547590470800371613827136
def B_Catalog_copyTo_3 : Nat := 338953138925153547590470800371487866880
def B_Authority_linkedHeading_17 : Nat := 0
def B_Draft_slotOf_120 : Nat := 0
def B_Authority_addLink_17 : Nat := 125960192
def B_Readers_addReader_46 : Nat := 1055531162664960
def B_Lending_addCopy_62 : Nat := 75553252075080268120064
def B_Lending_putAway_62 : Nat := 405828369621610135552
def B_Lending_has_62 : Nat := 0
def B_RuleBook_closeDay_27 : Nat := 402653184
def B_RuleBook_isClosed_27 : Nat := 0
def B_RuleBook_closedBetween_27 : Nat := 0
def B_Lending_lendTo_62 : Nat := 553545381868199739392
def B_Readers_has_46 : Nat := 0
def B_Readers_isBookedByOther_46 : Nat := 0
def B_Readers_isOver_46 : Nat := 0
def B_RuleBook_ruleFor_27 : Nat := 0
def B_Readers_openLoans_46 : Nat := 0
def B_Readers_isBarred_46 : Nat := 0
def B_Lending_dueDay_62 : Nat := 0
def B_Readers_firstBookedByOther_46 : Nat := 0
def B_RuleBook_openDay_27 : Nat := 0
def B_Readers_addLoan_46 : Nat := 89016461384744960
def B_Lending_setFine_62 : Nat := 54043195528445952
def B_Lending_renewLoan_62 : Nat := 67553994410557440
def B_Lending_tellPlace_62 : Nat := 0
def B_Lending_takeBack_62 : Nat := 69622696194451661914112
def B_Lending_isPlace_0 : Nat := 0
def B_Lending_fineOf_62 : Nat := 0
def B_Lending_enterQueue_62 : Nat := 69622623855382647275520
def B_Lending_queuedAt_62 : Nat := 0
def B_Lending_copyFor_62 : Nat := 0
def B_Lending_insertQueued_62 : Nat := 66117742446193460379648
def B_Lending_leaveQueue_62 : Nat := 69622623855382647275520
def B_Readers_takeMoney_46 : Nat := 281474976710656
def B_Buying_receive_76 : Nat := 2417851639229258349412352
def B_Buying_hasIssue_76 : Nat := 0
def B_Buying_addFund_76 : Nat := 67775403762145148106964992
def B_Buying_addOrder_76 : Nat := 561017138164913851387084800
def B_Buying_hasFund_76 : Nat := 0
def B_Buying_freeCents_76 : Nat := 0
def B_Buying_chargeOrder_76 : Nat := 367513449162847269110677504
def B_Buying_cancelOrder_76 : Nat := 328827822935179135520079872
def B_Buying_moveMoney_76 : Nat := 9671406556917033397649408
def B_Stores_setAnswering_89 : Nat := 2475880078570760549798248448
def B_Stores_alterByte_89 : Nat := 9903520314283042199192993792
def B_Stores_hasCopy_89 : Nat := 0
def B_Stores_has_89 : Nat := 0
def B_Stores_startOf_0 : Nat := 0
def B_Stores_loseCopy_89 : Nat := 4951760157141521099596496896
def B_Stores_mendPackage_89 : Nat := 14855280471424563298789490688
def B_Stores_majorityStore_89 : Nat := 0
def B_Stores_isHeard_89 : Nat := 0
def B_Stores_isSameOn_89 : Nat := 0
def B_Stores_copyBytes_89 : Nat := 9903520314283042199192993792
def B_Stores_nextStore_89 : Nat := 0
def B_Stores_copiesOn_89 : Nat := 0
def B_Stores_copiesOf_89 : Nat := 0
def B_Lending_setHome_62 : Nat := 70803215476100058578944
def B_Readers_setPickup_46 : Nat := 562949953421312
def B_Lending_bookCopy_62 : Nat := 4467641199095709696
def B_Readers_isBookedBetween_46 : Nat := 0
def B_Readers_addBooking_46 : Nat := 4467641199095709696
def B_Readers_takeBookingBack_46 : Nat := 2305843009213693952
def B_RuleBook_setStrict_27 : Nat := 134217728
def B_Catalog_setFrozen_3 : Nat := 128
def B_C_disposeAll_0 : Nat := 338953138925153547996299169993098002528
def B_C_mayDispose_0 : Nat := 338953138925153547590470800371487866880
def B_Lending_isInUse_62 : Nat := 0
def B_C_layPrint_0 : Nat := 338953138925153547590470800371487866880
def B_Authority_layNames_17 : Nat := 191408831393027885698148216680369618944
def B_Authority_nameOn_17 : Nat := 0
def B_RuleBook_daysToKeep_27 : Nat := 0
def B_Tape_isSameRow_1 : Nat := 0
def B_Tape_compareRows_1 : Nat := 0
def B_Lending_putAllAway_62 : Nat := 405828369621610135552
def B_C_addRecord_0 : Nat := 317685490992594893624009887407002484730
def B_C_readNewVersion_0 : Nat := 317685490992594893624009887407002353666
def B_Draft_readRecord_120 : Nat := 317685490992594893624009887407002353666
def B_Tape_peek_1 : Nat := 0
def B_Draft_readField_37 : Nat := 32847909879810
def B_Draft_readField_120 : Nat := 317685490992594893624009887407002353666
def B_Tape_takeTag_1 : Nat := 2
def B_Tape_takeByte_1 : Nat := 2
def B_Tape_takeIndicator_1 : Nat := 2
def B_Draft_addField_37 : Nat := 6459630813184
def B_Draft_addField_120 : Nat := 62473715801891046026478931833176195072
def B_Tape_takeRow_1 : Nat := 2
def B_Draft_addSubfield_37 : Nat := 30786325577728
def B_Draft_addSubfield_120 : Nat := 297747071055821155530452781502797185024
def B_Tape_takeCode_1 : Nat := 2
def B_Tape_takeEnd_1 : Nat := 2
def B_Tape_isRight_1 : Nat := 0
def B_Tape_refusal_1 : Nat := 0
def B_RuleBook_isAnyBroken_27 : Nat := 0
def B_RuleBook_isBroken_27 : Nat := 0
def B_Draft_longestRow_120 : Nat := 0
def B_Catalog_addRecord_3 : Nat := 131064
def B_Catalog_addVersion_3 : Nat := 130904
def B_C_editRecord_0 : Nat := 317685490992594893624009887407002484570
def B_Catalog_versionsOf_3 : Nat := 0
def B_Authority_addHeading_17 : Nat := 8257538
def B_Authority_isNamed_17 : Nat := 0
def B_Authority_addName_17 : Nat := 7995392
def B_Authority_renameHeading_17 : Nat := 7995394
def B_RuleBook_readLines_27 : Nat := 32984275091458
def B_RuleBook_readLoanLine_27 : Nat := 68719476738
def B_RuleBook_readSort_27 : Nat := 2
def B_Tape_takeBetween_1 : Nat := 2
def B_Tape_takeNumber_1 : Nat := 2
def B_RuleBook_readRouteLine_27 : Nat := 68719476738
def B_RuleBook_readWeekdays_27 : Nat := 2
def B_C_isDigit_0 : Nat := 0
def B_Tape_stopHere_1 : Nat := 2
def B_RuleBook_readCheckLine_27 : Nat := 68719476738
def B_Tape_takeWord_1 : Nat := 2
def B_String_length_1000000 : Nat := 0
def B_String_length_1000002 : Nat := 0
def B_String_length_1000004 : Nat := 0
def B_String_length_1000006 : Nat := 0
def B_String_length_1000008 : Nat := 0
def B_String_length_1000010 : Nat := 0
def B_String_length_1000012 : Nat := 0
def B_String_length_1000014 : Nat := 0
def B_String_length_1000016 : Nat := 0
def B_String_length_1000018 : Nat := 0
def B_String_length_1000020 : Nat := 0
def B_String_length_1000022 : Nat := 0
def B_String_length_1000024 : Nat := 0
def B_String_length_1000026 : Nat := 0
def B_String_length_1000028 : Nat := 0
def B_String_length_1000030 : Nat := 0
def B_String_length_1000032 : Nat := 0
def B_String_length_1000034 : Nat := 0
def B_String_length_1000036 : Nat := 0
def B_String_length_1000038 : Nat := 0
def B_String_length_1000040 : Nat := 0
def B_String_length_1000042 : Nat := 0
def B_String_length_1000044 : Nat := 0
def B_String_coder_1000000 : Nat := 0
def B_String_coder_1000002 : Nat := 0
def B_String_coder_1000004 : Nat := 0
def B_String_coder_1000006 : Nat := 0
def B_String_coder_1000008 : Nat := 0
def B_String_coder_1000010 : Nat := 0
def B_String_coder_1000012 : Nat := 0
def B_String_coder_1000014 : Nat := 0
def B_String_coder_1000016 : Nat := 0
def B_String_coder_1000018 : Nat := 0
def B_String_coder_1000020 : Nat := 0
def B_String_coder_1000022 : Nat := 0
def B_String_coder_1000024 : Nat := 0
def B_String_coder_1000026 : Nat := 0
def B_String_coder_1000028 : Nat := 0
def B_String_coder_1000030 : Nat := 0
def B_String_coder_1000032 : Nat := 0
def B_String_coder_1000034 : Nat := 0
def B_String_coder_1000036 : Nat := 0
def B_String_coder_1000038 : Nat := 0
def B_String_coder_1000040 : Nat := 0
def B_String_coder_1000042 : Nat := 0
def B_String_coder_1000044 : Nat := 0
def B_String_charAt_1000000 : Nat := 0
def B_String_charAt_1000002 : Nat := 0
def B_String_charAt_1000004 : Nat := 0
def B_String_charAt_1000006 : Nat := 0
def B_String_charAt_1000008 : Nat := 0
def B_String_charAt_1000010 : Nat := 0
def B_String_charAt_1000012 : Nat := 0
def B_String_charAt_1000014 : Nat := 0
def B_String_charAt_1000016 : Nat := 0
def B_String_charAt_1000018 : Nat := 0
def B_String_charAt_1000020 : Nat := 0
def B_String_charAt_1000022 : Nat := 0
def B_String_charAt_1000024 : Nat := 0
def B_String_charAt_1000026 : Nat := 0
def B_String_charAt_1000028 : Nat := 0
def B_String_charAt_1000030 : Nat := 0
def B_String_charAt_1000032 : Nat := 0
def B_String_charAt_1000034 : Nat := 0
def B_String_charAt_1000036 : Nat := 0
def B_String_charAt_1000038 : Nat := 0
def B_String_charAt_1000040 : Nat := 0
def B_String_charAt_1000042 : Nat := 0
def B_String_charAt_1000044 : Nat := 0
def B_RuleBook_readKeepLine_27 : Nat := 68719476738
def B_RuleBook_readStep_27 : Nat := 32916629356546
def B_Buying_addSerial_76 : Nat := 4760145414732602375405570
def B_Buying_readMonths_0 : Nat := 2
def B_Buying_foretell_76 : Nat := 4231240368651202111471616
def B_Stores_addPackage_89 : Nat := 16712190530352633711138177024
def B_Lending_setMark_62 : Nat := 4722366482869645213698
def B_Lending_readTail_0 : Nat := 2
def B_C_runBatch_0 : Nat := 338958168942928212576169887875696033626
def B_Question_readQuestion_94 : Nat := 10121397761197269127575239655426
def B_Question_openBrackets_94 : Nat := 99035203142830421991929937922
def B_Question_pushWaiting_94 : Nat := 99035203142830421991929937920
def B_Question_readTerm_94 : Nat := 10042169598683004789981695705090
def B_Question_readWords_94 : Nat := 6358060041769713091881902014466
def B_Tape_takeSmallWord_1 : Nat := 2
def B_Question_addWord_94 : Nat := 5090409441541483690385198809088
def B_Question_addToProgram_94 : Nat := 59421121885698253195157962752
def B_Question_closeBrackets_94 : Nat := 59421121885698253195157962754
def B_Question_settleWaiting_94 : Nat := 59421121885698253195157962752
def B_Question_readJoint_94 : Nat := 138649284399962590788701913090
def B_C_searchAll_0 : Nat := 338955562692908224593652546466402533376
def B_Question_splitWords_94 : Nat := 60867035851583577356240139845632
def B_Question_splitRow_94 : Nat := 60867035851583577356240139845632
def B_C_isLetter_0 : Nat := 0
def B_Question_isMet_94 : Nat := 10141204801825835211973625643008
def B_Question_isTermMet_94 : Nat := 0
def B_Question_isTold_0 : Nat := 0
def B_Question_isPhraseAt_94 : Nat := 0
def B_Desk_fileRecord_106 : Nat := 2352759514023593769177881149177856
def B_Desk_compareTitles_106 : Nat := 0
def B_Desk_endOf_106 : Nat := 0
def B_Desk_compareElements_106 : Nat := 0
def B_C_changeRecord_0 : Nat := 338953138925153547590470800371487997784
def B_RuleBook_applyStep_27 : Nat := 317685490992594893624009887407002353664
def B_Draft_removeFields_120 : Nat := 317685490992594893624009887407002353664
def B_Draft_copyField_120 : Nat := 316356262996809977751106080346722009088
def B_Draft_setRows_120 : Nat := 297747071055821155530452781502797185024
def B_Draft_appendField_120 : Nat := 317685490992594893624009887407002353664
def B_Draft_hasRightSize_120 : Nat := 0
def B_Catalog_isSame_3 : Nat := 0
def B_C_runMessage_0 : Nat := 69622767196514537177091
def B_Tape_takeNextNumber_1 : Nat := 2
def B_Tape_wholeText_1 : Nat := 0
def B_C_record_0 : Nat := 679240535883668880964832086005316059131
def B_C_edit_0 : Nat := 679240535883668880964832086005316059131
def B_C_drop_0 : Nat := 679240535883668880964832086005316059131
def B_C_print_0 : Nat := 338953382314068791410515887738503299072
def B_Catalog_versionOn_3 : Nat := 0
def B_Desk_writeText_106 : Nat := 243388915243820045087367015432192
def B_Desk_writeNumber_106 : Nat := 243388915243820045087367015432192
def B_Desk_write_106 : Nat := 243388915243820045087367015432192
def B_Desk_writeField_106 : Nat := 243388915243820045087367015432192
def B_Desk_writeExchange_106 : Nat := 243388915243820045087367015432192
def B_Draft_exchangeBytes_120 : Nat := 0
def B_C_printed_0 : Nat := 0
def B_C_heading_0 : Nat := 679240535883668880964832086005316059131
def B_C_rename_0 : Nat := 679240535883668880964832086005316059131
def B_C_broader_0 : Nat := 679240535883668880964832086005316059131
def B_C_link_0 : Nat := 679240535883668880964832086005316059131
def B_C_find_0 : Nat := 338955572794498945162355589643256201218
def B_C_hit_0 : Nat := 0
def B_C_value_0 : Nat := 338989566132801705990552209634797551616
def B_Desk_addValues_106 : Nat := 36427207648158400081409263309684736
def B_Desk_addValue_106 : Nat := 36427207648158400081409263309684736
def B_Desk_valueOfRank_106 : Nat := 0
def B_Tape_rowByte_1 : Nat := 0
def B_C_reader_0 : Nat := 679240535883668880964832086005316059131
def B_C_copy_0 : Nat := 679240535883668880964832086005316059131
def B_C_away_0 : Nat := 679240535883668880964832086005316059131
def B_C_rules_0 : Nat := 679240535883668880964832086005316059131
def B_C_closed_0 : Nat := 679240535883668880964832086005316059131
def B_C_lend_0 : Nat := 679240535883668880964832086005316059131
def B_C_renew_0 : Nat := 679240535883668880964832086005316059131
def B_C_back_0 : Nat := 679240535883668880964832086005316059131
def B_C_hold_0 : Nat := 679240535883668880964832086005316059131
def B_C_unhold_0 : Nat := 679240535883668880964832086005316059131
def B_C_pay_0 : Nat := 679240535883668880964832086005316059131
def B_C_state_0 : Nat := 0
def B_Lending_tellState_62 : Nat := 0
def B_C_queue_0 : Nat := 0
def B_Lending_queuedReader_62 : Nat := 0
def B_C_owes_0 : Nat := 0
def B_C_serial_0 : Nat := 679240535883668880964832086005316059131
def B_C_issue_0 : Nat := 0
def B_Buying_tellIssue_76 : Nat := 0
def B_C_came_0 : Nat := 679240535883668880964832086005316059131
def B_C_claim_0 : Nat := 4835703278458516698824704
def B_Buying_claimOfRank_76 : Nat := 4835703278458516698824704
def B_Buying_goToClaim_76 : Nat := 4835703278458516698824704
def B_C_fund_0 : Nat := 679240535883668880964832086005316059131
def B_C_order_0 : Nat := 679240535883668880964832086005316059131
def B_C_invoice_0 : Nat := 679240535883668880964832086005316059131
def B_C_cancel_0 : Nat := 679240535883668880964832086005316059131
def B_C_transfer_0 : Nat := 679240535883668880964832086005316059131
def B_C_money_0 : Nat := 0
def B_Buying_tellMoney_76 : Nat := 0
def B_C_pack_0 : Nat := 679240535883668880964832086005316059131
def B_C_answers_0 : Nat := 679240535883668880964832086005316059131
def B_C_alter_0 : Nat := 679240535883668880964832086005316059131
def B_C_lose_0 : Nat := 679240535883668880964832086005316059131
def B_C_mend_0 : Nat := 679240535883668880964832086005316059131
def B_C_octet_0 : Nat := 0
def B_Stores_octetOf_89 : Nat := 0
def B_C_load_0 : Nat := 0
def B_C_harvest_0 : Nat := 1287689620916637251875563089646583808
def B_Desk_openToken_106 : Nat := 1287689620916637251875563089646583808
def B_C_next_0 : Nat := 1038459371706965525706099265844019200
def B_Desk_nextChanged_106 : Nat := 1038459371706965525706099265844019200
def B_C_sync_0 : Nat := 1
def B_C_power_0 : Nat := 338999707337598696122485722544181608443
def B_C_rewind_0 : Nat := 338999707337598696122485722544181608443
def B_C_restart_0 : Nat := 3094925660688933023236882443
def B_Catalog_restart_3 : Nat := 8
def B_Authority_restart_17 : Nat := 131072
def B_RuleBook_restart_27 : Nat := 34493956096
def B_Readers_restart_46 : Nat := 70368744177664
def B_Lending_restart_62 : Nat := 4611686018427387904
def B_Buying_restart_76 : Nat := 75557863725914323419136
def B_Stores_restart_89 : Nat := 3094850098213450687247810560
def B_Desk_restart_106 : Nat := 41619504506693227709939759638904832
def B_C_count_0 : Nat := 0
def B_C_broken_0 : Nat := 0
def B_Lending_wronglyLent_62 : Nat := 0
def B_Readers_openLoansOf_46 : Nat := 0
def B_Lending_wronglyIn_62 : Nat := 0
def B_Buying_overspentFunds_76 : Nat := 0
def B_Authority_ringedHeadings_17 : Nat := 0
def B_Lending_wronglyQueued_62 : Nat := 0
def B_C_home_0 : Nat := 679240535883668880964832086005316059131
def B_C_pickup_0 : Nat := 679240535883668880964832086005316059131
def B_C_routes_0 : Nat := 679240535883668880964832086005316059131
def B_C_bring_0 : Nat := 679240535883668880964832086005316059131
def B_C_where_0 : Nat := 0
def B_C_book_0 : Nat := 679240535883668880964832086005316059131
def B_C_unbook_0 : Nat := 679240535883668880964832086005316059131
def B_C_mark_0 : Nat := 679240535883668880964832086005316059131
def B_C_shelf_0 : Nat := 0
def B_Lending_shelved_62 : Nat := 0
def B_Lending_isInAt_62 : Nat := 0
def B_Lending_shelvedAhead_62 : Nat := 0
def B_C_checks_0 : Nat := 679240535883668880964832086005316059131
def B_C_strict_0 : Nat := 679240535883668880964832086005316059131
def B_C_broke_0 : Nat := 338953138925153547590470800371487866880
def B_C_batch_0 : Nat := 679240535883668880964832086005316059131
def B_C_result_0 : Nat := 0
def B_C_retention_0 : Nat := 679240535883668880964832086005316059131
def B_C_freeze_0 : Nat := 679240535883668880964832086005316059131
def B_C_due_0 : Nat := 338953138925153547590470800371487866880
def B_C_dispose_0 : Nat := 679240535883668880964832086005316059131
def B_C_exchange_0 : Nat := 679240535883668880964832086005316059131
def B_C_deed_0 : Nat := 1
def B_C_done_0 : Nat := 338999707337598696122485722544181608443
def B_C_tally_0 : Nat := 0
def B_Lending_copiesUnderWay_62 : Nat := 0
def B_R_feed_129 : Nat := 2041694201525630780780247644590609268736
def B_R_put_129 : Nat := 2041694201525630780780247644590609268736
def B_R_end_129 : Nat := 680564733841876926926749214863536422912
def B_R_sync_129 : Nat := 680564733841876926926749214863536422912
def B_R_power_129 : Nat := 6111107929003458259039996441018938326706186857093683850140128248477049890907019640506941440
def B_R_in_0 : Nat := 0
def B_R_again_129 : Nat := 6111107929003458259033094694672147762918752101231406824687677139504879504351857116283142144
def B_R_forget_129 : Nat := 862718293348820473429344482785308746290230498448225068610179064397824
def B_R_repeats_129 : Nat := 6111107929003458258805337065228147037357876679402515239111563466705198181535932448853983232
def B_R_batchText_129 : Nat := 12554203471498403356246771199834819031611803633074040733696
def B_R_question_129 : Nat := 725041828575192353419486199407092744145971707904
def B_R_at_129 : Nat := 0
def B_R_term_129 : Nat := 359666419242466623868564991228021989231988572160
def B_R_numeral_129 : Nat := 680564733841876926926749214863536422912
def B_R_isDigit_0 : Nat := 0
def B_R_phrase_129 : Nat := 159851741583067506678528028578343455274867621888
def B_R_word_129 : Nat := 159851741583067506678528028578343455274867621888
def B_R_isSmall_0 : Nat := 0
def B_R_close_129 : Nat := 182687705346927598617337531016284592320527990784
def B_R_literal_129 : Nat := 0
def B_R_operator_129 : Nat := 548063114679653328168258739195355347234511126528
def B_R_stepText_129 : Nat := 12554203470773361528352143580257209759131460103791605448704
def B_R_fieldText_129 : Nat := 0
def B_R_row_129 : Nat := 0
def B_R_isRowByte_0 : Nat := 0
def B_R_subfields_129 : Nat := 0
def B_R_tagText_129 : Nat := 680564733841876926926749214863536422912
def B_R_versionOn_129 : Nat := 0
def B_R_takeVersion_129 : Nat := 4074071952668972172536891376818756322102936787331873181837014740585689526275888275903217664
def B_R_doMove_129 : Nat := 6111107929003458258805337065228134483154405180997809432473155189940070826039224982086615040
def B_R_fieldEnd_0 : Nat := 0
def B_R_tagAt_0 : Nat := 0
def B_R_putBytes_129 : Nat := 4074071952668972172536891376818756322102936787331872501272280898708762599526673412366794752
def B_R_firstCode_0 : Nat := 0
def B_R_rowEnd_0 : Nat := 0
def B_R_addVersion_129 : Nat := 6111107929003458258805337065228134483154405180999159672905097473763093496481514238349672448
def B_R_perform_129 : Nat := 6111107929003458259033094694672147762918752101231405463558209455751025650853427389210296320
def B_R_doTick_129 : Nat := 184296510470065531558057037495399977703381672369623439265109114880
def B_R_refuse_129 : Nat := 680564733841876926926749214863536422912
def B_R_arrivals_129 : Nat := 184296510470065531558057037495399977703381672369623439265109114880
def B_R_shelve_129 : Nat := 49258357648495962777350228566040309052370292448780353536
def B_R_sendOff_129 : Nat := 49258357648495962777350228566040309052370292448780353536
def B_R_arrival_129 : Nat := 49039857307708443467467104868809893875799651909875269632
def B_R_goes_129 : Nat := 0
def B_R_settle_129 : Nat := 184296510469251393301972034039397105845208070615825984106449076224
def B_R_inQueue_129 : Nat := 0
def B_R_ahead_129 : Nat := 0
def B_R_comeIn_129 : Nat := 26938398179283202588330318836626528618298148632133632
def B_R_unqueue_129 : Nat := 184296510419975076721356549126987990399943343877710159558580633600
def B_R_doRecord_129 : Nat := 6111107929003458258805337065231348359242923161550276264197004209060630386431393273768574976
def B_R_recordText_129 : Nat := 0
def B_R_wrong_129 : Nat := 680564733841876926926749214863536422912
def B_R_firstBroken_129 : Nat := 0
def B_R_breaks_129 : Nat := 0
def B_R_longest_0 : Nat := 0
def B_R_doEdit_129 : Nat := 6111107929003458258805337065228134483154405180999159672905097473763093496481514238349672448
def B_R_isRecord_129 : Nat := 0
def B_R_doDrop_129 : Nat := 66014779182662061911894673841763033022464
def B_R_doHeading_129 : Nat := 86416068209040006550377835055727264372097024
def B_R_nameTextOnTape_129 : Nat := 0
def B_R_isName_129 : Nat := 0
def B_R_nameOn_129 : Nat := 0
def B_R_addName_129 : Nat := 83628475059223678657685870271646219183849472
def B_R_doRename_129 : Nat := 83628475059223678657685870271646219183849472
def B_R_doBroader_129 : Nat := 2788273714550169769618891533295908724670464
def B_R_doLink_129 : Nat := 1338088948619537110492393335057867820226314240
def B_R_firstA_0 : Nat := 0
def B_R_linkedOn_129 : Nat := 0
def B_R_doReader_129 : Nat := 383685101845207961874910813640267275333447522178826240
def B_R_doCopy_129 : Nat := 184296510470929805166309040245108908766056773496127171533723402240
def B_R_doAway_129 : Nat := 2993155353254369741214988414329874373470213384437760
def B_R_isCopy_129 : Nat := 0
def B_R_doRules_129 : Nat := 9873027343927236252929815775908836871773342120550694043628077056
def B_R_rulesText_129 : Nat := 6582018229284824168619877410794135861807870389283534316930859008
def B_R_ruleText_129 : Nat := 6582018229284824168619877410794135861807870389283534316930859008
def B_R_doClosed_129 : Nat := 13164036458569648337239754141023537881738813851817853770325295104
def B_R_isShut_129 : Nat := 0
def B_R_doLend_129 : Nat := 3265298105979165570200072989849193448263087624479680152589041664
def B_R_isReader_129 : Nat := 0
def B_R_isBookedNow_129 : Nat := 0
def B_R_isOver_129 : Nat := 0
def B_R_ruleOf_129 : Nat := 0
def B_R_lentTo_129 : Nat := 0
def B_R_open_129 : Nat := 0
def B_R_dueBy_129 : Nat := 0
def B_R_doRenew_129 : Nat := 1542660522488630664520284289212249940298241800780695985425743872
def B_R_doBack_129 : Nat := 185942015026572973488546159933101516493507981849912595888528687104
def B_R_doHold_129 : Nat := 184296510469251393301972034039397105845208070615825984106449076224
def B_R_waitsFor_129 : Nat := 0
def B_R_hasCopy_129 : Nat := 0
def B_R_doUnhold_129 : Nat := 184296510469251393301972034039397105845208070615825984106449076224
def B_R_doPay_129 : Nat := 374144419157391711793985194102295202246782267424768
def B_R_doSerial_129 : Nat := 6529362083450545575270917717068131537613372841760794112630817030144
def B_R_patternText_129 : Nat := 680564733841876926926749214863536422912
def B_R_months_129 : Nat := 680564733841876926926749214863536422912
def B_R_doCame_129 : Nat := 3369993333393829974333376886558018568046519979744320775001487704064
def B_R_isIssue_129 : Nat := 0
def B_R_performRest_129 : Nat := 6111107929003458259033088142273000509107612529562186479961549146163589378531482594428583936
def B_R_doFund_129 : Nat := 47179906667513619640667276402964918412706879666372751056794854359040
def B_R_doOrder_129 : Nat := 390919226673684277022671718762465209501580471053765050190865885036544
def B_R_isFund_129 : Nat := 0
def B_R_free_129 : Nat := 0
def B_R_doInvoice_129 : Nat := 256119493337931078049336643327367056133394748941062187785347833790464
def B_R_doCancel_129 : Nat := 229159546670780438254669628240347425459757604518521615304244223541248
def B_R_doTransfer_129 : Nat := 6739986666787659948666753772435472402251163032561892335139438985216
def B_R_doPack_129 : Nat := 5607668906767333077290739138100763744850367916815365825284414468259840
def B_R_storeFor_129 : Nat := 0
def B_R_loadOf_129 : Nat := 0
def B_R_doAnswers_129 : Nat := 862718293348820473429344482785308746290230498448225068610179064397824
def B_R_isStore_0 : Nat := 0
def B_R_doAlter_129 : Nat := 3450873173395281893717377931139193290959396363012120026796125648322560
def B_R_hasPack_129 : Nat := 0
def B_R_isPack_129 : Nat := 0
def B_R_doLose_129 : Nat := 1725436586697640946858688965569936927846619119969523388005494592372736
def B_R_doMend_129 : Nat := 5176309760092922840576066896708449654072173606054716665586756704272384
def B_R_majority_129 : Nat := 0
def B_R_isAlike_129 : Nat := 0
def B_R_copyOctets_129 : Nat := 3450873173395281893717377931138512726225554486085193277581262111899648
def B_R_copiesOf_129 : Nat := 0
def B_R_doHome_129 : Nat := 184296510469347174273276152093044502534404964939802155301585551360
def B_R_isPlace_0 : Nat := 0
def B_R_doPickup_129 : Nat := 383123885216472895154320598664504222653899644082323456
def B_R_doRoutes_129 : Nat := 36779892980781333281165062493484347333598953795942875136
def B_R_routeText_129 : Nat := 24519928653854222414298286276281873864649040818474057728
def B_R_doBring_129 : Nat := 185942015026620863974198218959925214838106429011900681486096924672
def B_R_doBook_129 : Nat := 3040471153077923495663525235708090347226327633275803140096
def B_R_doUnbook_129 : Nat := 1569275433846670191639512089643793530952338075979545051136
def B_R_doMark_129 : Nat := 10727468786061222689073163031929091212080388718821638144
def B_R_callText_129 : Nat := 10727468786061222689073163031929091212080388718821638144
def B_R_doChecks_129 : Nat := 9415652603080021146434248868653376551080282381559588192256
def B_R_checkText_129 : Nat := 6277101735386680764516354157049543343029104659327570935808
def B_R_doStrict_129 : Nat := 680564733841876926926749214863536422912
def B_R_doBatch_129 : Nat := 6111107929003458259026192948325545512183566016577129100698616685171839530560387204444585984
def B_R_findAll_129 : Nat := 10962689528355042580250571458268321357419413241856
def B_R_build_129 : Nat := 1427248373270693722935212896198709999919169536
def B_R_copyToPage_129 : Nat := 1427248373270693722935212896198709999919169536
def B_R_answersAll_129 : Nat := 730750818665451459101842416358141509827966271488
def B_R_meets_129 : Nat := 0
def B_R_isTold_0 : Nat := 0
def B_R_fieldMeets_129 : Nat := 0
def B_R_rowMeets_129 : Nat := 0
def B_R_isOfWord_0 : Nat := 0
def B_R_isLetter_0 : Nat := 0
def B_R_lower_0 : Nat := 0
def B_R_stands_129 : Nat := 0
def B_R_readTitle_129 : Nat := 8769009823985417509222108996297698117935595257856
def B_R_isAhead_129 : Nat := 680564733841876926926749214863536422912
def B_R_compareTitles_129 : Nat := 680564733841876926926749214863536422912
def B_R_element_129 : Nat := 680564733841876926926749214863536422912
def B_R_compareElements_129 : Nat := 0
def B_R_swapFound_129 : Nat := 10230511461316320427425793829013981137591527800832
def B_R_isRight_129 : Nat := 0
def B_R_isVersion_129 : Nat := 0
def B_R_doRetention_129 : Nat := 3013008832985606766641859487873521756656057362557600102612992
def B_R_keepText_129 : Nat := 2410407066388485413313623703245585780710231239889052789374976
def B_R_doFreeze_129 : Nat := 3213876088517980551084604749416167081971332736780449207025664
def B_R_doDispose_129 : Nat := 2993156780567396661623689657600811747592249263783936
def B_R_mayGo_129 : Nat := 1427248373270693722935212896198709999919169536
def B_R_fits_129 : Nat := 0
def B_R_doExchange_129 : Nat := 187581091831765034055251020294113200692679076065559130178104328192
def B_R_messageText_129 : Nat := 12855504354071922204336377303463142697104550699477206218833920
def B_R_answerOf_129 : Nat := 187561808575233926171944516749005106741448809629633736664080711680
def B_R_forgetAsked_129 : Nat := 6901746346790563787434755862277706017184950849097313304377387760222208
def B_R_deed_129 : Nat := 680564733841876926926749214863536422912
def B_R_done_129 : Nat := 6111107929003458259039996441018938326706186857093683850140128248477049890907019640506941440
def B_R_tally_129 : Nat := 0
def B_R_underWay_129 : Nat := 0
def B_R_count_129 : Nat := 0
def B_R_tick_129 : Nat := 6111107929003458259033094694672147762918752101231405463558209455751025650853427389210296320
def B_R_act_129 : Nat := 6111107929003458259033094694672147762918752101231405463558209455751025650853427389210296320
def B_R_hasText_0 : Nat := 0
def B_R_takeTape_129 : Nat := 680564733841876926926749214863536422912
def B_R_note_129 : Nat := 6111107929003458258805337065228134483154405180997809432473155189940070826039224982086615040
def B_R_behindLog_129 : Nat := 0
def B_R_record_129 : Nat := 6111107929003458259033094694672147762918752101231405463558209455751025650853427389210296320
def B_R_edit_129 : Nat := 6111107929003458259033094694672147762918752101231405463558209455751025650853427389210296320
def B_R_drop_129 : Nat := 6111107929003458259033094694672147762918752101231405463558209455751025650853427389210296320
def B_R_print_129 : Nat := 4281743758682613485051784835097700272684662784
def B_R_writeExchange_129 : Nat := 2854496065976653603993498865648205136301916160
def B_R_exchangeField_129 : Nat := 2854496065976653603993498865648205136301916160
def B_R_write_129 : Nat := 2854496065976653603993498865648205136301916160
def B_R_writeDigits_129 : Nat := 2854496065976653603993498865648205136301916160
def B_R_printed_129 : Nat := 0
def B_R_heading_129 : Nat := 6111107929003458259033094694672147762918752101231405463558209455751025650853427389210296320
def B_R_rename_129 : Nat := 6111107929003458259033094694672147762918752101231405463558209455751025650853427389210296320
def B_R_broader_129 : Nat := 6111107929003458259033094694672147762918752101231405463558209455751025650853427389210296320
def B_R_link_129 : Nat := 6111107929003458259033094694672147762918752101231405463558209455751025650853427389210296320
def B_R_find_129 : Nat := 11687731356249670199828180730748664886701848526848
def B_R_hit_129 : Nat := 0
def B_R_value_129 : Nat := 175381623728081620878165115138850161068711824326656
def B_R_gatherValues_129 : Nat := 175381623728081620878165115138850161068711824326656
def B_R_addValue_129 : Nat := 175380196480388914918284056852880711573575441580032
def B_R_isValue_129 : Nat := 0
def B_R_isValueAhead_129 : Nat := 0
def B_R_swapValues_129 : Nat := 81844091690530563419406350632111849100732222406656
def B_R_reader_129 : Nat := 6111107929003458259033094694672147762918752101231405463558209455751025650853427389210296320
def B_R_copy_129 : Nat := 6111107929003458259033094694672147762918752101231405463558209455751025650853427389210296320
def B_R_away_129 : Nat := 6111107929003458259033094694672147762918752101231405463558209455751025650853427389210296320
def B_R_rules_129 : Nat := 6111107929003458259033094694672147762918752101231405463558209455751025650853427389210296320
def B_R_closed_129 : Nat := 6111107929003458259033094694672147762918752101231405463558209455751025650853427389210296320
def B_R_lend_129 : Nat := 6111107929003458259033094694672147762918752101231405463558209455751025650853427389210296320
def B_R_renew_129 : Nat := 6111107929003458259033094694672147762918752101231405463558209455751025650853427389210296320
def B_R_back_129 : Nat := 6111107929003458259033094694672147762918752101231405463558209455751025650853427389210296320
def B_R_hold_129 : Nat := 6111107929003458259033094694672147762918752101231405463558209455751025650853427389210296320
def B_R_unhold_129 : Nat := 6111107929003458259033094694672147762918752101231405463558209455751025650853427389210296320
def B_R_pay_129 : Nat := 6111107929003458259033094694672147762918752101231405463558209455751025650853427389210296320
def B_R_state_129 : Nat := 0
def B_R_queue_129 : Nat := 0
def B_R_owes_129 : Nat := 0
def B_R_home_129 : Nat := 6111107929003458259033094694672147762918752101231405463558209455751025650853427389210296320
def B_R_pickup_129 : Nat := 6111107929003458259033094694672147762918752101231405463558209455751025650853427389210296320
def B_R_routes_129 : Nat := 6111107929003458259033094694672147762918752101231405463558209455751025650853427389210296320
def B_R_bring_129 : Nat := 6111107929003458259033094694672147762918752101231405463558209455751025650853427389210296320
def B_R_where_129 : Nat := 0
def B_R_book_129 : Nat := 6111107929003458259033094694672147762918752101231405463558209455751025650853427389210296320
def B_R_unbook_129 : Nat := 6111107929003458259033094694672147762918752101231405463558209455751025650853427389210296320
def B_R_mark_129 : Nat := 6111107929003458259033094694672147762918752101231405463558209455751025650853427389210296320
def B_R_shelf_129 : Nat := 0
def B_R_standsAhead_129 : Nat := 0
def B_R_checks_129 : Nat := 6111107929003458259033094694672147762918752101231405463558209455751025650853427389210296320
def B_R_strict_129 : Nat := 6111107929003458259033094694672147762918752101231405463558209455751025650853427389210296320
def B_R_broke_129 : Nat := 4074071952668972172536891376818756322102936787331873181837014740585689526275888275903217664
def B_R_batch_129 : Nat := 6111107929003458259033094694672147762918752101231405463558209455751025650853427389210296320
def B_R_result_129 : Nat := 0
def B_R_retention_129 : Nat := 6111107929003458259033094694672147762918752101231405463558209455751025650853427389210296320
def B_R_freeze_129 : Nat := 6111107929003458259033094694672147762918752101231405463558209455751025650853427389210296320
def B_R_due_129 : Nat := 1427248373270693722935212896198709999919169536
def B_R_dispose_129 : Nat := 6111107929003458259033094694672147762918752101231405463558209455751025650853427389210296320
def B_R_exchange_129 : Nat := 6111107929003458259033094694672147762918752101231405463558209455751025650853427389210296320
def B_R_serial_129 : Nat := 6111107929003458259033094694672147762918752101231405463558209455751025650853427389210296320
def B_R_issue_129 : Nat := 0
def B_R_came_129 : Nat := 6111107929003458259033094694672147762918752101231405463558209455751025650853427389210296320
def B_R_claim_129 : Nat := 0
def B_R_nextClaim_129 : Nat := 0
def B_R_isBehind_0 : Nat := 0
def B_R_fund_129 : Nat := 6111107929003458259033094694672147762918752101231405463558209455751025650853427389210296320
def B_R_order_129 : Nat := 6111107929003458259033094694672147762918752101231405463558209455751025650853427389210296320
def B_R_invoice_129 : Nat := 6111107929003458259033094694672147762918752101231405463558209455751025650853427389210296320
def B_R_cancel_129 : Nat := 6111107929003458259033094694672147762918752101231405463558209455751025650853427389210296320
def B_R_transfer_129 : Nat := 6111107929003458259033094694672147762918752101231405463558209455751025650853427389210296320
def B_R_money_129 : Nat := 0
def B_R_pack_129 : Nat := 6111107929003458259033094694672147762918752101231405463558209455751025650853427389210296320
def B_R_answers_129 : Nat := 6111107929003458259033094694672147762918752101231405463558209455751025650853427389210296320
def B_R_alter_129 : Nat := 6111107929003458259033094694672147762918752101231405463558209455751025650853427389210296320
def B_R_lose_129 : Nat := 6111107929003458259033094694672147762918752101231405463558209455751025650853427389210296320
def B_R_mend_129 : Nat := 6111107929003458259033094694672147762918752101231405463558209455751025650853427389210296320
def B_R_octet_129 : Nat := 0
def B_R_load_129 : Nat := 0
def B_R_harvest_129 : Nat := 213954136750507477410477431730587789025984378137281983210038250937778176
def B_R_next_129 : Nat := 172543658669764094685868896556925636311277724304259663879063105594982400
def B_R_broken_129 : Nat := 0
def B_R_badlyLent_129 : Nat := 0
def B_R_idle_129 : Nat := 0
def B_R_rings_129 : Nat := 0
def B_R_doubled_129 : Nat := 0
def pg_Bs : Nat → Nat → Nat := fun j who => (cond (Nat.blt j 295) (cond (Nat.blt j 149) (cond (Nat.blt j 80) (cond (Nat.blt j 46) (cond (Nat.blt j 29) (cond (Nat.blt j 20) (cond (Nat.blt j 16) (cond (Nat.blt j 14) (cond (Nat.blt j 13) (cond (Nat.beq j 12) B_C_feed_0 0) (cond (Nat.beq j 13) B_Tape_hasRoom_1 0)) (cond (Nat.blt j 15) (cond (Nat.beq j 14) B_Tape_put_1 0) (cond (Nat.beq j 15) B_C_end_0 0))) (cond (Nat.blt j 18) (cond (Nat.blt j 17) (cond (Nat.beq j 16) B_C_tick_0 0) (cond (Nat.beq j 17) B_C_act_0 0)) (cond (Nat.blt j 19) (cond (Nat.beq j 18) B_Tape_openText_1 0) (cond (Nat.beq j 19) B_C_perform_0 0)))) (cond (Nat.blt j 24) (cond (Nat.blt j 22) (cond (Nat.blt j 21) (cond (Nat.beq j 20) B_Lending_passTo_62 0) (cond (Nat.beq j 21) B_Lending_firstArrival_62 0)) (cond (Nat.blt j 23) (cond (Nat.beq j 22) B_Lending_direct_62 0) (cond (Nat.beq j 23) B_RuleBook_arrivalDay_27 0))) (cond (Nat.blt j 26) (cond (Nat.blt j 25) (cond (Nat.beq j 24) (cond (Nat.beq who 82) B_Arrays_fill_82 (cond (Nat.beq who 45) B_Arrays_fill_45 (cond (Nat.beq who 35) B_Arrays_fill_35 0))) 0) (cond (Nat.beq j 25) B_Lending_setStatus_62 0)) (cond (Nat.blt j 27) (cond (Nat.beq j 26) B_Lending_settle_62 0) (cond (Nat.blt j 28) (cond (Nat.beq j 27) B_Lending_takeFirstQueued_62 0) (cond (Nat.beq j 28) B_Lending_removeQueued_62 0)))))) (cond (Nat.blt j 37) (cond (Nat.blt j 33) (cond (Nat.blt j 31) (cond (Nat.blt j 30) (cond (Nat.beq j 29) B_C_dropRecord_0 0) (cond (Nat.beq j 30) B_Catalog_isThere_3 0)) (cond (Nat.blt j 32) (cond (Nat.beq j 31) B_Lending_hasCopyLeft_62 0) (cond (Nat.beq j 32) B_Buying_hasSerial_76 0))) (cond (Nat.blt j 35) (cond (Nat.blt j 34) (cond (Nat.beq j 33) B_Lending_queueLength_62 0) (cond (Nat.beq j 34) B_Catalog_setGone_3 0)) (cond (Nat.blt j 36) (cond (Nat.beq j 35) B_Authority_setBroader_17 0) (cond (Nat.beq j 36) B_Authority_has_17 0)))) (cond (Nat.blt j 41) (cond (Nat.blt j 39) (cond (Nat.blt j 38) (cond (Nat.beq j 37) B_Authority_isUnder_17 0) (cond (Nat.beq j 38) B_C_linkField_0 0)) (cond (Nat.blt j 40) (cond (Nat.beq j 39) B_Catalog_copyTo_3 0) (cond (Nat.beq j 40) B_Authority_linkedHeading_17 0))) (cond (Nat.blt j 43) (cond (Nat.blt j 42) (cond (Nat.beq j 41) B_Draft_slotOf_120 0) (cond (Nat.beq j 42) B_Authority_addLink_17 0)) (cond (Nat.blt j 44) (cond (Nat.beq j 43) B_Readers_addReader_46 0) (cond (Nat.blt j 45) (cond (Nat.beq j 44) B_Lending_addCopy_62 0) (cond (Nat.beq j 45) B_Lending_putAway_62 0))))))) (cond (Nat.blt j 63) (cond (Nat.blt j 54) (cond (Nat.blt j 50) (cond (Nat.blt j 48) (cond (Nat.blt j 47) (cond (Nat.beq j 46) B_Lending_has_62 0) (cond (Nat.beq j 47) B_RuleBook_closeDay_27 0)) (cond (Nat.blt j 49) (cond (Nat.beq j 48) B_RuleBook_isClosed_27 0) (cond (Nat.beq j 49) B_RuleBook_closedBetween_27 0))) (cond (Nat.blt j 52) (cond (Nat.blt j 51) (cond (Nat.beq j 50) B_Lending_lendTo_62 0) (cond (Nat.beq j 51) B_Readers_has_46 0)) (cond (Nat.blt j 53) (cond (Nat.beq j 52) B_Readers_isBookedByOther_46 0) (cond (Nat.beq j 53) B_Readers_isOver_46 0)))) (cond (Nat.blt j 58) (cond (Nat.blt j 56) (cond (Nat.blt j 55) (cond (Nat.beq j 54) B_RuleBook_ruleFor_27 0) (cond (Nat.beq j 55) B_Readers_openLoans_46 0)) (cond (Nat.blt j 57) (cond (Nat.beq j 56) B_Readers_isBarred_46 0) (cond (Nat.beq j 57) B_Lending_dueDay_62 0))) (cond (Nat.blt j 60) (cond (Nat.blt j 59) (cond (Nat.beq j 58) B_Readers_firstBookedByOther_46 0) (cond (Nat.beq j 59) B_RuleBook_openDay_27 0)) (cond (Nat.blt j 61) (cond (Nat.beq j 60) B_Readers_addLoan_46 0) (cond (Nat.blt j 62) (cond (Nat.beq j 61) B_Lending_setFine_62 0) (cond (Nat.beq j 62) B_Lending_renewLoan_62 0)))))) (cond (Nat.blt j 71) (cond (Nat.blt j 67) (cond (Nat.blt j 65) (cond (Nat.blt j 64) (cond (Nat.beq j 63) B_Lending_tellPlace_62 0) (cond (Nat.beq j 64) B_Lending_takeBack_62 0)) (cond (Nat.blt j 66) (cond (Nat.beq j 65) B_Lending_isPlace_0 0) (cond (Nat.beq j 66) B_Lending_fineOf_62 0))) (cond (Nat.blt j 69) (cond (Nat.blt j 68) (cond (Nat.beq j 67) B_Lending_enterQueue_62 0) (cond (Nat.beq j 68) B_Lending_queuedAt_62 0)) (cond (Nat.blt j 70) (cond (Nat.beq j 69) B_Lending_copyFor_62 0) (cond (Nat.beq j 70) B_Lending_insertQueued_62 0)))) (cond (Nat.blt j 75) (cond (Nat.blt j 73) (cond (Nat.blt j 72) (cond (Nat.beq j 71) B_Lending_leaveQueue_62 0) (cond (Nat.beq j 72) B_Readers_takeMoney_46 0)) (cond (Nat.blt j 74) (cond (Nat.beq j 73) B_Buying_receive_76 0) (cond (Nat.beq j 74) B_Buying_hasIssue_76 0))) (cond (Nat.blt j 77) (cond (Nat.blt j 76) (cond (Nat.beq j 75) B_Buying_addFund_76 0) (cond (Nat.beq j 76) B_Buying_addOrder_76 0)) (cond (Nat.blt j 78) (cond (Nat.beq j 77) B_Buying_hasFund_76 0) (cond (Nat.blt j 79) (cond (Nat.beq j 78) B_Buying_freeCents_76 0) (cond (Nat.beq j 79) B_Buying_chargeOrder_76 0)))))))) (cond (Nat.blt j 114) (cond (Nat.blt j 97) (cond (Nat.blt j 88) (cond (Nat.blt j 84) (cond (Nat.blt j 82) (cond (Nat.blt j 81) (cond (Nat.beq j 80) B_Buying_cancelOrder_76 0) (cond (Nat.beq j 81) B_Buying_moveMoney_76 0)) (cond (Nat.blt j 83) (cond (Nat.beq j 82) B_Stores_setAnswering_89 0) (cond (Nat.beq j 83) B_Stores_alterByte_89 0))) (cond (Nat.blt j 86) (cond (Nat.blt j 85) (cond (Nat.beq j 84) B_Stores_hasCopy_89 0) (cond (Nat.beq j 85) B_Stores_has_89 0)) (cond (Nat.blt j 87) (cond (Nat.beq j 86) B_Stores_startOf_0 0) (cond (Nat.beq j 87) B_Stores_loseCopy_89 0)))) (cond (Nat.blt j 92) (cond (Nat.blt j 90) (cond (Nat.blt j 89) (cond (Nat.beq j 88) B_Stores_mendPackage_89 0) (cond (Nat.beq j 89) B_Stores_majorityStore_89 0)) (cond (Nat.blt j 91) (cond (Nat.beq j 90) B_Stores_isHeard_89 0) (cond (Nat.beq j 91) B_Stores_isSameOn_89 0))) (cond (Nat.blt j 94) (cond (Nat.blt j 93) (cond (Nat.beq j 92) B_Stores_copyBytes_89 0) (cond (Nat.beq j 93) B_Stores_nextStore_89 0)) (cond (Nat.blt j 95) (cond (Nat.beq j 94) B_Stores_copiesOn_89 0) (cond (Nat.blt j 96) (cond (Nat.beq j 95) B_Stores_copiesOf_89 0) (cond (Nat.beq j 96) B_Lending_setHome_62 0)))))) (cond (Nat.blt j 105) (cond (Nat.blt j 101) (cond (Nat.blt j 99) (cond (Nat.blt j 98) (cond (Nat.beq j 97) B_Readers_setPickup_46 0) (cond (Nat.beq j 98) B_Lending_bookCopy_62 0)) (cond (Nat.blt j 100) (cond (Nat.beq j 99) B_Readers_isBookedBetween_46 0) (cond (Nat.beq j 100) B_Readers_addBooking_46 0))) (cond (Nat.blt j 103) (cond (Nat.blt j 102) (cond (Nat.beq j 101) B_Readers_takeBookingBack_46 0) (cond (Nat.beq j 102) B_RuleBook_setStrict_27 0)) (cond (Nat.blt j 104) (cond (Nat.beq j 103) B_Catalog_setFrozen_3 0) (cond (Nat.beq j 104) B_C_disposeAll_0 0)))) (cond (Nat.blt j 109) (cond (Nat.blt j 107) (cond (Nat.blt j 106) (cond (Nat.beq j 105) B_C_mayDispose_0 0) (cond (Nat.beq j 106) B_Lending_isInUse_62 0)) (cond (Nat.blt j 108) (cond (Nat.beq j 107) B_C_layPrint_0 0) (cond (Nat.beq j 108) B_Authority_layNames_17 0))) (cond (Nat.blt j 111) (cond (Nat.blt j 110) (cond (Nat.beq j 109) B_Authority_nameOn_17 0) (cond (Nat.beq j 110) B_RuleBook_daysToKeep_27 0)) (cond (Nat.blt j 112) (cond (Nat.beq j 111) B_Tape_isSameRow_1 0) (cond (Nat.blt j 113) (cond (Nat.beq j 112) B_Tape_compareRows_1 0) (cond (Nat.beq j 113) B_Lending_putAllAway_62 0))))))) (cond (Nat.blt j 131) (cond (Nat.blt j 122) (cond (Nat.blt j 118) (cond (Nat.blt j 116) (cond (Nat.blt j 115) (cond (Nat.beq j 114) B_C_addRecord_0 0) (cond (Nat.beq j 115) B_C_readNewVersion_0 0)) (cond (Nat.blt j 117) (cond (Nat.beq j 116) B_Draft_readRecord_120 0) (cond (Nat.beq j 117) B_Tape_peek_1 0))) (cond (Nat.blt j 120) (cond (Nat.blt j 119) (cond (Nat.beq j 118) (cond (Nat.beq who 120) B_Draft_readField_120 (cond (Nat.beq who 37) B_Draft_readField_37 0)) 0) (cond (Nat.beq j 119) B_Tape_takeTag_1 0)) (cond (Nat.blt j 121) (cond (Nat.beq j 120) B_Tape_takeByte_1 0) (cond (Nat.beq j 121) B_Tape_takeIndicator_1 0)))) (cond (Nat.blt j 126) (cond (Nat.blt j 124) (cond (Nat.blt j 123) (cond (Nat.beq j 122) (cond (Nat.beq who 120) B_Draft_addField_120 (cond (Nat.beq who 37) B_Draft_addField_37 0)) 0) (cond (Nat.beq j 123) B_Tape_takeRow_1 0)) (cond (Nat.blt j 125) (cond (Nat.beq j 124) (cond (Nat.beq who 120) B_Draft_addSubfield_120 (cond (Nat.beq who 37) B_Draft_addSubfield_37 0)) 0) (cond (Nat.beq j 125) B_Tape_takeCode_1 0))) (cond (Nat.blt j 128) (cond (Nat.blt j 127) (cond (Nat.beq j 126) B_Tape_takeEnd_1 0) (cond (Nat.beq j 127) B_Tape_isRight_1 0)) (cond (Nat.blt j 129) (cond (Nat.beq j 128) B_Tape_refusal_1 0) (cond (Nat.blt j 130) (cond (Nat.beq j 129) B_RuleBook_isAnyBroken_27 0) (cond (Nat.beq j 130) B_RuleBook_isBroken_27 0)))))) (cond (Nat.blt j 140) (cond (Nat.blt j 135) (cond (Nat.blt j 133) (cond (Nat.blt j 132) (cond (Nat.beq j 131) B_Draft_longestRow_120 0) (cond (Nat.beq j 132) B_Catalog_addRecord_3 0)) (cond (Nat.blt j 134) (cond (Nat.beq j 133) B_Catalog_addVersion_3 0) (cond (Nat.beq j 134) B_C_editRecord_0 0))) (cond (Nat.blt j 137) (cond (Nat.blt j 136) (cond (Nat.beq j 135) B_Catalog_versionsOf_3 0) (cond (Nat.beq j 136) B_Authority_addHeading_17 0)) (cond (Nat.blt j 138) (cond (Nat.beq j 137) B_Authority_isNamed_17 0) (cond (Nat.blt j 139) (cond (Nat.beq j 138) B_Authority_addName_17 0) (cond (Nat.beq j 139) B_Authority_renameHeading_17 0))))) (cond (Nat.blt j 144) (cond (Nat.blt j 142) (cond (Nat.blt j 141) (cond (Nat.beq j 140) B_RuleBook_readLines_27 0) (cond (Nat.beq j 141) B_RuleBook_readLoanLine_27 0)) (cond (Nat.blt j 143) (cond (Nat.beq j 142) B_RuleBook_readSort_27 0) (cond (Nat.beq j 143) B_Tape_takeBetween_1 0))) (cond (Nat.blt j 146) (cond (Nat.blt j 145) (cond (Nat.beq j 144) B_Tape_takeNumber_1 0) (cond (Nat.beq j 145) B_RuleBook_readRouteLine_27 0)) (cond (Nat.blt j 147) (cond (Nat.beq j 146) B_RuleBook_readWeekdays_27 0) (cond (Nat.blt j 148) (cond (Nat.beq j 147) B_C_isDigit_0 0) (cond (Nat.beq j 148) B_Tape_stopHere_1 0))))))))) (cond (Nat.blt j 226) (cond (Nat.blt j 191) (cond (Nat.blt j 174) (cond (Nat.blt j 165) (cond (Nat.blt j 153) (cond (Nat.blt j 151) (cond (Nat.blt j 150) (cond (Nat.beq j 149) B_RuleBook_readCheckLine_27 0) (cond (Nat.beq j 150) B_Tape_takeWord_1 0)) (cond (Nat.blt j 152) (cond (Nat.beq j 151) (cond (Nat.beq who 1000044) B_String_length_1000044 (cond (Nat.beq who 1000042) B_String_length_1000042 (cond (Nat.beq who 1000040) B_String_length_1000040 (cond (Nat.beq who 1000038) B_String_length_1000038 (cond (Nat.beq who 1000036) B_String_length_1000036 (cond (Nat.beq who 1000034) B_String_length_1000034 (cond (Nat.beq who 1000032) B_String_length_1000032 (cond (Nat.beq who 1000030) B_String_length_1000030 (cond (Nat.beq who 1000028) B_String_length_1000028 (cond (Nat.beq who 1000026) B_String_length_1000026 (cond (Nat.beq who 1000024) B_String_length_1000024 (cond (Nat.beq who 1000022) B_String_length_1000022 (cond (Nat.beq who 1000020) B_String_length_1000020 (cond (Nat.beq who 1000018) B_String_length_1000018 (cond (Nat.beq who 1000016) B_String_length_1000016 (cond (Nat.beq who 1000014) B_String_length_1000014 (cond (Nat.beq who 1000012) B_String_length_1000012 (cond (Nat.beq who 1000010) B_String_length_1000010 (cond (Nat.beq who 1000008) B_String_length_1000008 (cond (Nat.beq who 1000006) B_String_length_1000006 (cond (Nat.beq who 1000004) B_String_length_1000004 (cond (Nat.beq who 1000002) B_String_length_1000002 (cond (Nat.beq who 1000000) B_String_length_1000000 0))))))))))))))))))))))) 0) (cond (Nat.beq j 152) (cond (Nat.beq who 1000044) B_String_coder_1000044 (cond (Nat.beq who 1000042) B_String_coder_1000042 (cond (Nat.beq who 1000040) B_String_coder_1000040 (cond (Nat.beq who 1000038) B_String_coder_1000038 (cond (Nat.beq who 1000036) B_String_coder_1000036 (cond (Nat.beq who 1000034) B_String_coder_1000034 (cond (Nat.beq who 1000032) B_String_coder_1000032 (cond (Nat.beq who 1000030) B_String_coder_1000030 (cond (Nat.beq who 1000028) B_String_coder_1000028 (cond (Nat.beq who 1000026) B_String_coder_1000026 (cond (Nat.beq who 1000024) B_String_coder_1000024 (cond (Nat.beq who 1000022) B_String_coder_1000022 (cond (Nat.beq who 1000020) B_String_coder_1000020 (cond (Nat.beq who 1000018) B_String_coder_1000018 (cond (Nat.beq who 1000016) B_String_coder_1000016 (cond (Nat.beq who 1000014) B_String_coder_1000014 (cond (Nat.beq who 1000012) B_String_coder_1000012 (cond (Nat.beq who 1000010) B_String_coder_1000010 (cond (Nat.beq who 1000008) B_String_coder_1000008 (cond (Nat.beq who 1000006) B_String_coder_1000006 (cond (Nat.beq who 1000004) B_String_coder_1000004 (cond (Nat.beq who 1000002) B_String_coder_1000002 (cond (Nat.beq who 1000000) B_String_coder_1000000 0))))))))))))))))))))))) 0))) (cond (Nat.blt j 163) (cond (Nat.blt j 162) (cond (Nat.beq j 153) (cond (Nat.beq who 1000044) B_String_charAt_1000044 (cond (Nat.beq who 1000042) B_String_charAt_1000042 (cond (Nat.beq who 1000040) B_String_charAt_1000040 (cond (Nat.beq who 1000038) B_String_charAt_1000038 (cond (Nat.beq who 1000036) B_String_charAt_1000036 (cond (Nat.beq who 1000034) B_String_charAt_1000034 (cond (Nat.beq who 1000032) B_String_charAt_1000032 (cond (Nat.beq who 1000030) B_String_charAt_1000030 (cond (Nat.beq who 1000028) B_String_charAt_1000028 (cond (Nat.beq who 1000026) B_String_charAt_1000026 (cond (Nat.beq who 1000024) B_String_charAt_1000024 (cond (Nat.beq who 1000022) B_String_charAt_1000022 (cond (Nat.beq who 1000020) B_String_charAt_1000020 (cond (Nat.beq who 1000018) B_String_charAt_1000018 (cond (Nat.beq who 1000016) B_String_charAt_1000016 (cond (Nat.beq who 1000014) B_String_charAt_1000014 (cond (Nat.beq who 1000012) B_String_charAt_1000012 (cond (Nat.beq who 1000010) B_String_charAt_1000010 (cond (Nat.beq who 1000008) B_String_charAt_1000008 (cond (Nat.beq who 1000006) B_String_charAt_1000006 (cond (Nat.beq who 1000004) B_String_charAt_1000004 (cond (Nat.beq who 1000002) B_String_charAt_1000002 (cond (Nat.beq who 1000000) B_String_charAt_1000000 0))))))))))))))))))))))) 0) (cond (Nat.beq j 162) B_RuleBook_readKeepLine_27 0)) (cond (Nat.blt j 164) (cond (Nat.beq j 163) B_RuleBook_readStep_27 0) (cond (Nat.beq j 164) B_Buying_addSerial_76 0)))) (cond (Nat.blt j 169) (cond (Nat.blt j 167) (cond (Nat.blt j 166) (cond (Nat.beq j 165) B_Buying_readMonths_0 0) (cond (Nat.beq j 166) B_Buying_foretell_76 0)) (cond (Nat.blt j 168) (cond (Nat.beq j 167) B_Stores_addPackage_89 0) (cond (Nat.beq j 168) B_Lending_setMark_62 0))) (cond (Nat.blt j 171) (cond (Nat.blt j 170) (cond (Nat.beq j 169) B_Lending_readTail_0 0) (cond (Nat.beq j 170) B_C_runBatch_0 0)) (cond (Nat.blt j 172) (cond (Nat.beq j 171) B_Question_readQuestion_94 0) (cond (Nat.blt j 173) (cond (Nat.beq j 172) B_Question_openBrackets_94 0) (cond (Nat.beq j 173) B_Question_pushWaiting_94 0)))))) (cond (Nat.blt j 182) (cond (Nat.blt j 178) (cond (Nat.blt j 176) (cond (Nat.blt j 175) (cond (Nat.beq j 174) B_Question_readTerm_94 0) (cond (Nat.beq j 175) B_Question_readWords_94 0)) (cond (Nat.blt j 177) (cond (Nat.beq j 176) B_Tape_takeSmallWord_1 0) (cond (Nat.beq j 177) B_Question_addWord_94 0))) (cond (Nat.blt j 180) (cond (Nat.blt j 179) (cond (Nat.beq j 178) B_Question_addToProgram_94 0) (cond (Nat.beq j 179) B_Question_closeBrackets_94 0)) (cond (Nat.blt j 181) (cond (Nat.beq j 180) B_Question_settleWaiting_94 0) (cond (Nat.beq j 181) B_Question_readJoint_94 0)))) (cond (Nat.blt j 186) (cond (Nat.blt j 184) (cond (Nat.blt j 183) (cond (Nat.beq j 182) B_C_searchAll_0 0) (cond (Nat.beq j 183) B_Question_splitWords_94 0)) (cond (Nat.blt j 185) (cond (Nat.beq j 184) B_Question_splitRow_94 0) (cond (Nat.beq j 185) B_C_isLetter_0 0))) (cond (Nat.blt j 188) (cond (Nat.blt j 187) (cond (Nat.beq j 186) B_Question_isMet_94 0) (cond (Nat.beq j 187) B_Question_isTermMet_94 0)) (cond (Nat.blt j 189) (cond (Nat.beq j 188) B_Question_isTold_0 0) (cond (Nat.blt j 190) (cond (Nat.beq j 189) B_Question_isPhraseAt_94 0) (cond (Nat.beq j 190) B_Desk_fileRecord_106 0))))))) (cond (Nat.blt j 208) (cond (Nat.blt j 199) (cond (Nat.blt j 195) (cond (Nat.blt j 193) (cond (Nat.blt j 192) (cond (Nat.beq j 191) B_Desk_compareTitles_106 0) (cond (Nat.beq j 192) B_Desk_endOf_106 0)) (cond (Nat.blt j 194) (cond (Nat.beq j 193) B_Desk_compareElements_106 0) (cond (Nat.beq j 194) B_C_changeRecord_0 0))) (cond (Nat.blt j 197) (cond (Nat.blt j 196) (cond (Nat.beq j 195) B_RuleBook_applyStep_27 0) (cond (Nat.beq j 196) B_Draft_removeFields_120 0)) (cond (Nat.blt j 198) (cond (Nat.beq j 197) B_Draft_copyField_120 0) (cond (Nat.beq j 198) B_Draft_setRows_120 0)))) (cond (Nat.blt j 203) (cond (Nat.blt j 201) (cond (Nat.blt j 200) (cond (Nat.beq j 199) B_Draft_appendField_120 0) (cond (Nat.beq j 200) B_Draft_hasRightSize_120 0)) (cond (Nat.blt j 202) (cond (Nat.beq j 201) B_Catalog_isSame_3 0) (cond (Nat.beq j 202) B_C_runMessage_0 0))) (cond (Nat.blt j 205) (cond (Nat.blt j 204) (cond (Nat.beq j 203) B_Tape_takeNextNumber_1 0) (cond (Nat.beq j 204) B_Tape_wholeText_1 0)) (cond (Nat.blt j 206) (cond (Nat.beq j 205) B_C_record_0 0) (cond (Nat.blt j 207) (cond (Nat.beq j 206) B_C_edit_0 0) (cond (Nat.beq j 207) B_C_drop_0 0)))))) (cond (Nat.blt j 217) (cond (Nat.blt j 212) (cond (Nat.blt j 210) (cond (Nat.blt j 209) (cond (Nat.beq j 208) B_C_print_0 0) (cond (Nat.beq j 209) B_Catalog_versionOn_3 0)) (cond (Nat.blt j 211) (cond (Nat.beq j 210) B_Desk_writeText_106 0) (cond (Nat.beq j 211) B_Desk_writeNumber_106 0))) (cond (Nat.blt j 214) (cond (Nat.blt j 213) (cond (Nat.beq j 212) B_Desk_write_106 0) (cond (Nat.beq j 213) B_Desk_writeField_106 0)) (cond (Nat.blt j 215) (cond (Nat.beq j 214) B_Desk_writeExchange_106 0) (cond (Nat.blt j 216) (cond (Nat.beq j 215) B_Draft_exchangeBytes_120 0) (cond (Nat.beq j 216) B_C_printed_0 0))))) (cond (Nat.blt j 221) (cond (Nat.blt j 219) (cond (Nat.blt j 218) (cond (Nat.beq j 217) B_C_heading_0 0) (cond (Nat.beq j 218) B_C_rename_0 0)) (cond (Nat.blt j 220) (cond (Nat.beq j 219) B_C_broader_0 0) (cond (Nat.beq j 220) B_C_link_0 0))) (cond (Nat.blt j 223) (cond (Nat.blt j 222) (cond (Nat.beq j 221) B_C_find_0 0) (cond (Nat.beq j 222) B_C_hit_0 0)) (cond (Nat.blt j 224) (cond (Nat.beq j 223) B_C_value_0 0) (cond (Nat.blt j 225) (cond (Nat.beq j 224) B_Desk_addValues_106 0) (cond (Nat.beq j 225) B_Desk_addValue_106 0)))))))) (cond (Nat.blt j 260) (cond (Nat.blt j 243) (cond (Nat.blt j 234) (cond (Nat.blt j 230) (cond (Nat.blt j 228) (cond (Nat.blt j 227) (cond (Nat.beq j 226) B_Desk_valueOfRank_106 0) (cond (Nat.beq j 227) B_Tape_rowByte_1 0)) (cond (Nat.blt j 229) (cond (Nat.beq j 228) B_C_reader_0 0) (cond (Nat.beq j 229) B_C_copy_0 0))) (cond (Nat.blt j 232) (cond (Nat.blt j 231) (cond (Nat.beq j 230) B_C_away_0 0) (cond (Nat.beq j 231) B_C_rules_0 0)) (cond (Nat.blt j 233) (cond (Nat.beq j 232) B_C_closed_0 0) (cond (Nat.beq j 233) B_C_lend_0 0)))) (cond (Nat.blt j 238) (cond (Nat.blt j 236) (cond (Nat.blt j 235) (cond (Nat.beq j 234) B_C_renew_0 0) (cond (Nat.beq j 235) B_C_back_0 0)) (cond (Nat.blt j 237) (cond (Nat.beq j 236) B_C_hold_0 0) (cond (Nat.beq j 237) B_C_unhold_0 0))) (cond (Nat.blt j 240) (cond (Nat.blt j 239) (cond (Nat.beq j 238) B_C_pay_0 0) (cond (Nat.beq j 239) B_C_state_0 0)) (cond (Nat.blt j 241) (cond (Nat.beq j 240) B_Lending_tellState_62 0) (cond (Nat.blt j 242) (cond (Nat.beq j 241) B_C_queue_0 0) (cond (Nat.beq j 242) B_Lending_queuedReader_62 0)))))) (cond (Nat.blt j 251) (cond (Nat.blt j 247) (cond (Nat.blt j 245) (cond (Nat.blt j 244) (cond (Nat.beq j 243) B_C_owes_0 0) (cond (Nat.beq j 244) B_C_serial_0 0)) (cond (Nat.blt j 246) (cond (Nat.beq j 245) B_C_issue_0 0) (cond (Nat.beq j 246) B_Buying_tellIssue_76 0))) (cond (Nat.blt j 249) (cond (Nat.blt j 248) (cond (Nat.beq j 247) B_C_came_0 0) (cond (Nat.beq j 248) B_C_claim_0 0)) (cond (Nat.blt j 250) (cond (Nat.beq j 249) B_Buying_claimOfRank_76 0) (cond (Nat.beq j 250) B_Buying_goToClaim_76 0)))) (cond (Nat.blt j 255) (cond (Nat.blt j 253) (cond (Nat.blt j 252) (cond (Nat.beq j 251) B_C_fund_0 0) (cond (Nat.beq j 252) B_C_order_0 0)) (cond (Nat.blt j 254) (cond (Nat.beq j 253) B_C_invoice_0 0) (cond (Nat.beq j 254) B_C_cancel_0 0))) (cond (Nat.blt j 257) (cond (Nat.blt j 256) (cond (Nat.beq j 255) B_C_transfer_0 0) (cond (Nat.beq j 256) B_C_money_0 0)) (cond (Nat.blt j 258) (cond (Nat.beq j 257) B_Buying_tellMoney_76 0) (cond (Nat.blt j 259) (cond (Nat.beq j 258) B_C_pack_0 0) (cond (Nat.beq j 259) B_C_answers_0 0))))))) (cond (Nat.blt j 277) (cond (Nat.blt j 268) (cond (Nat.blt j 264) (cond (Nat.blt j 262) (cond (Nat.blt j 261) (cond (Nat.beq j 260) B_C_alter_0 0) (cond (Nat.beq j 261) B_C_lose_0 0)) (cond (Nat.blt j 263) (cond (Nat.beq j 262) B_C_mend_0 0) (cond (Nat.beq j 263) B_C_octet_0 0))) (cond (Nat.blt j 266) (cond (Nat.blt j 265) (cond (Nat.beq j 264) B_Stores_octetOf_89 0) (cond (Nat.beq j 265) B_C_load_0 0)) (cond (Nat.blt j 267) (cond (Nat.beq j 266) B_C_harvest_0 0) (cond (Nat.beq j 267) B_Desk_openToken_106 0)))) (cond (Nat.blt j 272) (cond (Nat.blt j 270) (cond (Nat.blt j 269) (cond (Nat.beq j 268) B_C_next_0 0) (cond (Nat.beq j 269) B_Desk_nextChanged_106 0)) (cond (Nat.blt j 271) (cond (Nat.beq j 270) B_C_sync_0 0) (cond (Nat.beq j 271) B_C_power_0 0))) (cond (Nat.blt j 274) (cond (Nat.blt j 273) (cond (Nat.beq j 272) B_C_rewind_0 0) (cond (Nat.beq j 273) B_C_restart_0 0)) (cond (Nat.blt j 275) (cond (Nat.beq j 274) B_Catalog_restart_3 0) (cond (Nat.blt j 276) (cond (Nat.beq j 275) B_Authority_restart_17 0) (cond (Nat.beq j 276) B_RuleBook_restart_27 0)))))) (cond (Nat.blt j 286) (cond (Nat.blt j 281) (cond (Nat.blt j 279) (cond (Nat.blt j 278) (cond (Nat.beq j 277) B_Readers_restart_46 0) (cond (Nat.beq j 278) B_Lending_restart_62 0)) (cond (Nat.blt j 280) (cond (Nat.beq j 279) B_Buying_restart_76 0) (cond (Nat.beq j 280) B_Stores_restart_89 0))) (cond (Nat.blt j 283) (cond (Nat.blt j 282) (cond (Nat.beq j 281) B_Desk_restart_106 0) (cond (Nat.beq j 282) B_C_count_0 0)) (cond (Nat.blt j 284) (cond (Nat.beq j 283) B_C_broken_0 0) (cond (Nat.blt j 285) (cond (Nat.beq j 284) B_Lending_wronglyLent_62 0) (cond (Nat.beq j 285) B_Readers_openLoansOf_46 0))))) (cond (Nat.blt j 290) (cond (Nat.blt j 288) (cond (Nat.blt j 287) (cond (Nat.beq j 286) B_Lending_wronglyIn_62 0) (cond (Nat.beq j 287) B_Buying_overspentFunds_76 0)) (cond (Nat.blt j 289) (cond (Nat.beq j 288) B_Authority_ringedHeadings_17 0) (cond (Nat.beq j 289) B_Lending_wronglyQueued_62 0))) (cond (Nat.blt j 292) (cond (Nat.blt j 291) (cond (Nat.beq j 290) B_C_home_0 0) (cond (Nat.beq j 291) B_C_pickup_0 0)) (cond (Nat.blt j 293) (cond (Nat.beq j 292) B_C_routes_0 0) (cond (Nat.blt j 294) (cond (Nat.beq j 293) B_C_bring_0 0) (cond (Nat.beq j 294) B_C_where_0 0)))))))))) (cond (Nat.blt j 434) (cond (Nat.blt j 365) (cond (Nat.blt j 330) (cond (Nat.blt j 312) (cond (Nat.blt j 303) (cond (Nat.blt j 299) (cond (Nat.blt j 297) (cond (Nat.blt j 296) (cond (Nat.beq j 295) B_C_book_0 0) (cond (Nat.beq j 296) B_C_unbook_0 0)) (cond (Nat.blt j 298) (cond (Nat.beq j 297) B_C_mark_0 0) (cond (Nat.beq j 298) B_C_shelf_0 0))) (cond (Nat.blt j 301) (cond (Nat.blt j 300) (cond (Nat.beq j 299) B_Lending_shelved_62 0) (cond (Nat.beq j 300) B_Lending_isInAt_62 0)) (cond (Nat.blt j 302) (cond (Nat.beq j 301) B_Lending_shelvedAhead_62 0) (cond (Nat.beq j 302) B_C_checks_0 0)))) (cond (Nat.blt j 307) (cond (Nat.blt j 305) (cond (Nat.blt j 304) (cond (Nat.beq j 303) B_C_strict_0 0) (cond (Nat.beq j 304) B_C_broke_0 0)) (cond (Nat.blt j 306) (cond (Nat.beq j 305) B_C_batch_0 0) (cond (Nat.beq j 306) B_C_result_0 0))) (cond (Nat.blt j 309) (cond (Nat.blt j 308) (cond (Nat.beq j 307) B_C_retention_0 0) (cond (Nat.beq j 308) B_C_freeze_0 0)) (cond (Nat.blt j 310) (cond (Nat.beq j 309) B_C_due_0 0) (cond (Nat.blt j 311) (cond (Nat.beq j 310) B_C_dispose_0 0) (cond (Nat.beq j 311) B_C_exchange_0 0)))))) (cond (Nat.blt j 321) (cond (Nat.blt j 317) (cond (Nat.blt j 314) (cond (Nat.blt j 313) (cond (Nat.beq j 312) B_C_deed_0 0) (cond (Nat.beq j 313) B_C_done_0 0)) (cond (Nat.blt j 315) (cond (Nat.beq j 314) B_C_tally_0 0) (cond (Nat.beq j 315) B_Lending_copiesUnderWay_62 0))) (cond (Nat.blt j 319) (cond (Nat.blt j 318) (cond (Nat.beq j 317) B_R_feed_129 0) (cond (Nat.beq j 318) B_R_put_129 0)) (cond (Nat.blt j 320) (cond (Nat.beq j 319) B_R_end_129 0) (cond (Nat.beq j 320) B_R_sync_129 0)))) (cond (Nat.blt j 325) (cond (Nat.blt j 323) (cond (Nat.blt j 322) (cond (Nat.beq j 321) B_R_power_129 0) (cond (Nat.beq j 322) B_R_in_0 0)) (cond (Nat.blt j 324) (cond (Nat.beq j 323) B_R_again_129 0) (cond (Nat.beq j 324) B_R_forget_129 0))) (cond (Nat.blt j 327) (cond (Nat.blt j 326) (cond (Nat.beq j 325) B_R_repeats_129 0) (cond (Nat.beq j 326) B_R_batchText_129 0)) (cond (Nat.blt j 328) (cond (Nat.beq j 327) B_R_question_129 0) (cond (Nat.blt j 329) (cond (Nat.beq j 328) B_R_at_129 0) (cond (Nat.beq j 329) B_R_term_129 0))))))) (cond (Nat.blt j 347) (cond (Nat.blt j 338) (cond (Nat.blt j 334) (cond (Nat.blt j 332) (cond (Nat.blt j 331) (cond (Nat.beq j 330) B_R_numeral_129 0) (cond (Nat.beq j 331) B_R_isDigit_0 0)) (cond (Nat.blt j 333) (cond (Nat.beq j 332) B_R_phrase_129 0) (cond (Nat.beq j 333) B_R_word_129 0))) (cond (Nat.blt j 336) (cond (Nat.blt j 335) (cond (Nat.beq j 334) B_R_isSmall_0 0) (cond (Nat.beq j 335) B_R_close_129 0)) (cond (Nat.blt j 337) (cond (Nat.beq j 336) B_R_literal_129 0) (cond (Nat.beq j 337) B_R_operator_129 0)))) (cond (Nat.blt j 342) (cond (Nat.blt j 340) (cond (Nat.blt j 339) (cond (Nat.beq j 338) B_R_stepText_129 0) (cond (Nat.beq j 339) B_R_fieldText_129 0)) (cond (Nat.blt j 341) (cond (Nat.beq j 340) B_R_row_129 0) (cond (Nat.beq j 341) B_R_isRowByte_0 0))) (cond (Nat.blt j 344) (cond (Nat.blt j 343) (cond (Nat.beq j 342) B_R_subfields_129 0) (cond (Nat.beq j 343) B_R_tagText_129 0)) (cond (Nat.blt j 345) (cond (Nat.beq j 344) B_R_versionOn_129 0) (cond (Nat.blt j 346) (cond (Nat.beq j 345) B_R_takeVersion_129 0) (cond (Nat.beq j 346) B_R_doMove_129 0)))))) (cond (Nat.blt j 356) (cond (Nat.blt j 351) (cond (Nat.blt j 349) (cond (Nat.blt j 348) (cond (Nat.beq j 347) B_R_fieldEnd_0 0) (cond (Nat.beq j 348) B_R_tagAt_0 0)) (cond (Nat.blt j 350) (cond (Nat.beq j 349) B_R_putBytes_129 0) (cond (Nat.beq j 350) B_R_firstCode_0 0))) (cond (Nat.blt j 353) (cond (Nat.blt j 352) (cond (Nat.beq j 351) B_R_rowEnd_0 0) (cond (Nat.beq j 352) B_R_addVersion_129 0)) (cond (Nat.blt j 354) (cond (Nat.beq j 353) B_R_perform_129 0) (cond (Nat.blt j 355) (cond (Nat.beq j 354) B_R_doTick_129 0) (cond (Nat.beq j 355) B_R_refuse_129 0))))) (cond (Nat.blt j 360) (cond (Nat.blt j 358) (cond (Nat.blt j 357) (cond (Nat.beq j 356) B_R_arrivals_129 0) (cond (Nat.beq j 357) B_R_shelve_129 0)) (cond (Nat.blt j 359) (cond (Nat.beq j 358) B_R_sendOff_129 0) (cond (Nat.beq j 359) B_R_arrival_129 0))) (cond (Nat.blt j 362) (cond (Nat.blt j 361) (cond (Nat.beq j 360) B_R_goes_129 0) (cond (Nat.beq j 361) B_R_settle_129 0)) (cond (Nat.blt j 363) (cond (Nat.beq j 362) B_R_inQueue_129 0) (cond (Nat.blt j 364) (cond (Nat.beq j 363) B_R_ahead_129 0) (cond (Nat.beq j 364) B_R_comeIn_129 0)))))))) (cond (Nat.blt j 399) (cond (Nat.blt j 382) (cond (Nat.blt j 373) (cond (Nat.blt j 369) (cond (Nat.blt j 367) (cond (Nat.blt j 366) (cond (Nat.beq j 365) B_R_unqueue_129 0) (cond (Nat.beq j 366) B_R_doRecord_129 0)) (cond (Nat.blt j 368) (cond (Nat.beq j 367) B_R_recordText_129 0) (cond (Nat.beq j 368) B_R_wrong_129 0))) (cond (Nat.blt j 371) (cond (Nat.blt j 370) (cond (Nat.beq j 369) B_R_firstBroken_129 0) (cond (Nat.beq j 370) B_R_breaks_129 0)) (cond (Nat.blt j 372) (cond (Nat.beq j 371) B_R_longest_0 0) (cond (Nat.beq j 372) B_R_doEdit_129 0)))) (cond (Nat.blt j 377) (cond (Nat.blt j 375) (cond (Nat.blt j 374) (cond (Nat.beq j 373) B_R_isRecord_129 0) (cond (Nat.beq j 374) B_R_doDrop_129 0)) (cond (Nat.blt j 376) (cond (Nat.beq j 375) B_R_doHeading_129 0) (cond (Nat.beq j 376) B_R_nameTextOnTape_129 0))) (cond (Nat.blt j 379) (cond (Nat.blt j 378) (cond (Nat.beq j 377) B_R_isName_129 0) (cond (Nat.beq j 378) B_R_nameOn_129 0)) (cond (Nat.blt j 380) (cond (Nat.beq j 379) B_R_addName_129 0) (cond (Nat.blt j 381) (cond (Nat.beq j 380) B_R_doRename_129 0) (cond (Nat.beq j 381) B_R_doBroader_129 0)))))) (cond (Nat.blt j 390) (cond (Nat.blt j 386) (cond (Nat.blt j 384) (cond (Nat.blt j 383) (cond (Nat.beq j 382) B_R_doLink_129 0) (cond (Nat.beq j 383) B_R_firstA_0 0)) (cond (Nat.blt j 385) (cond (Nat.beq j 384) B_R_linkedOn_129 0) (cond (Nat.beq j 385) B_R_doReader_129 0))) (cond (Nat.blt j 388) (cond (Nat.blt j 387) (cond (Nat.beq j 386) B_R_doCopy_129 0) (cond (Nat.beq j 387) B_R_doAway_129 0)) (cond (Nat.blt j 389) (cond (Nat.beq j 388) B_R_isCopy_129 0) (cond (Nat.beq j 389) B_R_doRules_129 0)))) (cond (Nat.blt j 394) (cond (Nat.blt j 392) (cond (Nat.blt j 391) (cond (Nat.beq j 390) B_R_rulesText_129 0) (cond (Nat.beq j 391) B_R_ruleText_129 0)) (cond (Nat.blt j 393) (cond (Nat.beq j 392) B_R_doClosed_129 0) (cond (Nat.beq j 393) B_R_isShut_129 0))) (cond (Nat.blt j 396) (cond (Nat.blt j 395) (cond (Nat.beq j 394) B_R_doLend_129 0) (cond (Nat.beq j 395) B_R_isReader_129 0)) (cond (Nat.blt j 397) (cond (Nat.beq j 396) B_R_isBookedNow_129 0) (cond (Nat.blt j 398) (cond (Nat.beq j 397) B_R_isOver_129 0) (cond (Nat.beq j 398) B_R_ruleOf_129 0))))))) (cond (Nat.blt j 416) (cond (Nat.blt j 407) (cond (Nat.blt j 403) (cond (Nat.blt j 401) (cond (Nat.blt j 400) (cond (Nat.beq j 399) B_R_lentTo_129 0) (cond (Nat.beq j 400) B_R_open_129 0)) (cond (Nat.blt j 402) (cond (Nat.beq j 401) B_R_dueBy_129 0) (cond (Nat.beq j 402) B_R_doRenew_129 0))) (cond (Nat.blt j 405) (cond (Nat.blt j 404) (cond (Nat.beq j 403) B_R_doBack_129 0) (cond (Nat.beq j 404) B_R_doHold_129 0)) (cond (Nat.blt j 406) (cond (Nat.beq j 405) B_R_waitsFor_129 0) (cond (Nat.beq j 406) B_R_hasCopy_129 0)))) (cond (Nat.blt j 411) (cond (Nat.blt j 409) (cond (Nat.blt j 408) (cond (Nat.beq j 407) B_R_doUnhold_129 0) (cond (Nat.beq j 408) B_R_doPay_129 0)) (cond (Nat.blt j 410) (cond (Nat.beq j 409) B_R_doSerial_129 0) (cond (Nat.beq j 410) B_R_patternText_129 0))) (cond (Nat.blt j 413) (cond (Nat.blt j 412) (cond (Nat.beq j 411) B_R_months_129 0) (cond (Nat.beq j 412) B_R_doCame_129 0)) (cond (Nat.blt j 414) (cond (Nat.beq j 413) B_R_isIssue_129 0) (cond (Nat.blt j 415) (cond (Nat.beq j 414) B_R_performRest_129 0) (cond (Nat.beq j 415) B_R_doFund_129 0)))))) (cond (Nat.blt j 425) (cond (Nat.blt j 420) (cond (Nat.blt j 418) (cond (Nat.blt j 417) (cond (Nat.beq j 416) B_R_doOrder_129 0) (cond (Nat.beq j 417) B_R_isFund_129 0)) (cond (Nat.blt j 419) (cond (Nat.beq j 418) B_R_free_129 0) (cond (Nat.beq j 419) B_R_doInvoice_129 0))) (cond (Nat.blt j 422) (cond (Nat.blt j 421) (cond (Nat.beq j 420) B_R_doCancel_129 0) (cond (Nat.beq j 421) B_R_doTransfer_129 0)) (cond (Nat.blt j 423) (cond (Nat.beq j 422) B_R_doPack_129 0) (cond (Nat.blt j 424) (cond (Nat.beq j 423) B_R_storeFor_129 0) (cond (Nat.beq j 424) B_R_loadOf_129 0))))) (cond (Nat.blt j 429) (cond (Nat.blt j 427) (cond (Nat.blt j 426) (cond (Nat.beq j 425) B_R_doAnswers_129 0) (cond (Nat.beq j 426) B_R_isStore_0 0)) (cond (Nat.blt j 428) (cond (Nat.beq j 427) B_R_doAlter_129 0) (cond (Nat.beq j 428) B_R_hasPack_129 0))) (cond (Nat.blt j 431) (cond (Nat.blt j 430) (cond (Nat.beq j 429) B_R_isPack_129 0) (cond (Nat.beq j 430) B_R_doLose_129 0)) (cond (Nat.blt j 432) (cond (Nat.beq j 431) B_R_doMend_129 0) (cond (Nat.blt j 433) (cond (Nat.beq j 432) B_R_majority_129 0) (cond (Nat.beq j 433) B_R_isAlike_129 0))))))))) (cond (Nat.blt j 503) (cond (Nat.blt j 468) (cond (Nat.blt j 451) (cond (Nat.blt j 442) (cond (Nat.blt j 438) (cond (Nat.blt j 436) (cond (Nat.blt j 435) (cond (Nat.beq j 434) B_R_copyOctets_129 0) (cond (Nat.beq j 435) B_R_copiesOf_129 0)) (cond (Nat.blt j 437) (cond (Nat.beq j 436) B_R_doHome_129 0) (cond (Nat.beq j 437) B_R_isPlace_0 0))) (cond (Nat.blt j 440) (cond (Nat.blt j 439) (cond (Nat.beq j 438) B_R_doPickup_129 0) (cond (Nat.beq j 439) B_R_doRoutes_129 0)) (cond (Nat.blt j 441) (cond (Nat.beq j 440) B_R_routeText_129 0) (cond (Nat.beq j 441) B_R_doBring_129 0)))) (cond (Nat.blt j 446) (cond (Nat.blt j 444) (cond (Nat.blt j 443) (cond (Nat.beq j 442) B_R_doBook_129 0) (cond (Nat.beq j 443) B_R_doUnbook_129 0)) (cond (Nat.blt j 445) (cond (Nat.beq j 444) B_R_doMark_129 0) (cond (Nat.beq j 445) B_R_callText_129 0))) (cond (Nat.blt j 448) (cond (Nat.blt j 447) (cond (Nat.beq j 446) B_R_doChecks_129 0) (cond (Nat.beq j 447) B_R_checkText_129 0)) (cond (Nat.blt j 449) (cond (Nat.beq j 448) B_R_doStrict_129 0) (cond (Nat.blt j 450) (cond (Nat.beq j 449) B_R_doBatch_129 0) (cond (Nat.beq j 450) B_R_findAll_129 0)))))) (cond (Nat.blt j 459) (cond (Nat.blt j 455) (cond (Nat.blt j 453) (cond (Nat.blt j 452) (cond (Nat.beq j 451) B_R_build_129 0) (cond (Nat.beq j 452) B_R_copyToPage_129 0)) (cond (Nat.blt j 454) (cond (Nat.beq j 453) B_R_answersAll_129 0) (cond (Nat.beq j 454) B_R_meets_129 0))) (cond (Nat.blt j 457) (cond (Nat.blt j 456) (cond (Nat.beq j 455) B_R_isTold_0 0) (cond (Nat.beq j 456) B_R_fieldMeets_129 0)) (cond (Nat.blt j 458) (cond (Nat.beq j 457) B_R_rowMeets_129 0) (cond (Nat.beq j 458) B_R_isOfWord_0 0)))) (cond (Nat.blt j 463) (cond (Nat.blt j 461) (cond (Nat.blt j 460) (cond (Nat.beq j 459) B_R_isLetter_0 0) (cond (Nat.beq j 460) B_R_lower_0 0)) (cond (Nat.blt j 462) (cond (Nat.beq j 461) B_R_stands_129 0) (cond (Nat.beq j 462) B_R_readTitle_129 0))) (cond (Nat.blt j 465) (cond (Nat.blt j 464) (cond (Nat.beq j 463) B_R_isAhead_129 0) (cond (Nat.beq j 464) B_R_compareTitles_129 0)) (cond (Nat.blt j 466) (cond (Nat.beq j 465) B_R_element_129 0) (cond (Nat.blt j 467) (cond (Nat.beq j 466) B_R_compareElements_129 0) (cond (Nat.beq j 467) B_R_swapFound_129 0))))))) (cond (Nat.blt j 485) (cond (Nat.blt j 476) (cond (Nat.blt j 472) (cond (Nat.blt j 470) (cond (Nat.blt j 469) (cond (Nat.beq j 468) B_R_isRight_129 0) (cond (Nat.beq j 469) B_R_isVersion_129 0)) (cond (Nat.blt j 471) (cond (Nat.beq j 470) B_R_doRetention_129 0) (cond (Nat.beq j 471) B_R_keepText_129 0))) (cond (Nat.blt j 474) (cond (Nat.blt j 473) (cond (Nat.beq j 472) B_R_doFreeze_129 0) (cond (Nat.beq j 473) B_R_doDispose_129 0)) (cond (Nat.blt j 475) (cond (Nat.beq j 474) B_R_mayGo_129 0) (cond (Nat.beq j 475) B_R_fits_129 0)))) (cond (Nat.blt j 480) (cond (Nat.blt j 478) (cond (Nat.blt j 477) (cond (Nat.beq j 476) B_R_doExchange_129 0) (cond (Nat.beq j 477) B_R_messageText_129 0)) (cond (Nat.blt j 479) (cond (Nat.beq j 478) B_R_answerOf_129 0) (cond (Nat.beq j 479) B_R_forgetAsked_129 0))) (cond (Nat.blt j 482) (cond (Nat.blt j 481) (cond (Nat.beq j 480) B_R_deed_129 0) (cond (Nat.beq j 481) B_R_done_129 0)) (cond (Nat.blt j 483) (cond (Nat.beq j 482) B_R_tally_129 0) (cond (Nat.blt j 484) (cond (Nat.beq j 483) B_R_underWay_129 0) (cond (Nat.beq j 484) B_R_count_129 0)))))) (cond (Nat.blt j 494) (cond (Nat.blt j 489) (cond (Nat.blt j 487) (cond (Nat.blt j 486) (cond (Nat.beq j 485) B_R_tick_129 0) (cond (Nat.beq j 486) B_R_act_129 0)) (cond (Nat.blt j 488) (cond (Nat.beq j 487) B_R_hasText_0 0) (cond (Nat.beq j 488) B_R_takeTape_129 0))) (cond (Nat.blt j 491) (cond (Nat.blt j 490) (cond (Nat.beq j 489) B_R_note_129 0) (cond (Nat.beq j 490) B_R_behindLog_129 0)) (cond (Nat.blt j 492) (cond (Nat.beq j 491) B_R_record_129 0) (cond (Nat.blt j 493) (cond (Nat.beq j 492) B_R_edit_129 0) (cond (Nat.beq j 493) B_R_drop_129 0))))) (cond (Nat.blt j 498) (cond (Nat.blt j 496) (cond (Nat.blt j 495) (cond (Nat.beq j 494) B_R_print_129 0) (cond (Nat.beq j 495) B_R_writeExchange_129 0)) (cond (Nat.blt j 497) (cond (Nat.beq j 496) B_R_exchangeField_129 0) (cond (Nat.beq j 497) B_R_write_129 0))) (cond (Nat.blt j 500) (cond (Nat.blt j 499) (cond (Nat.beq j 498) B_R_writeDigits_129 0) (cond (Nat.beq j 499) B_R_printed_129 0)) (cond (Nat.blt j 501) (cond (Nat.beq j 500) B_R_heading_129 0) (cond (Nat.blt j 502) (cond (Nat.beq j 501) B_R_rename_129 0) (cond (Nat.beq j 502) B_R_broader_129 0)))))))) (cond (Nat.blt j 537) (cond (Nat.blt j 520) (cond (Nat.blt j 511) (cond (Nat.blt j 507) (cond (Nat.blt j 505) (cond (Nat.blt j 504) (cond (Nat.beq j 503) B_R_link_129 0) (cond (Nat.beq j 504) B_R_find_129 0)) (cond (Nat.blt j 506) (cond (Nat.beq j 505) B_R_hit_129 0) (cond (Nat.beq j 506) B_R_value_129 0))) (cond (Nat.blt j 509) (cond (Nat.blt j 508) (cond (Nat.beq j 507) B_R_gatherValues_129 0) (cond (Nat.beq j 508) B_R_addValue_129 0)) (cond (Nat.blt j 510) (cond (Nat.beq j 509) B_R_isValue_129 0) (cond (Nat.beq j 510) B_R_isValueAhead_129 0)))) (cond (Nat.blt j 515) (cond (Nat.blt j 513) (cond (Nat.blt j 512) (cond (Nat.beq j 511) B_R_swapValues_129 0) (cond (Nat.beq j 512) B_R_reader_129 0)) (cond (Nat.blt j 514) (cond (Nat.beq j 513) B_R_copy_129 0) (cond (Nat.beq j 514) B_R_away_129 0))) (cond (Nat.blt j 517) (cond (Nat.blt j 516) (cond (Nat.beq j 515) B_R_rules_129 0) (cond (Nat.beq j 516) B_R_closed_129 0)) (cond (Nat.blt j 518) (cond (Nat.beq j 517) B_R_lend_129 0) (cond (Nat.blt j 519) (cond (Nat.beq j 518) B_R_renew_129 0) (cond (Nat.beq j 519) B_R_back_129 0)))))) (cond (Nat.blt j 528) (cond (Nat.blt j 524) (cond (Nat.blt j 522) (cond (Nat.blt j 521) (cond (Nat.beq j 520) B_R_hold_129 0) (cond (Nat.beq j 521) B_R_unhold_129 0)) (cond (Nat.blt j 523) (cond (Nat.beq j 522) B_R_pay_129 0) (cond (Nat.beq j 523) B_R_state_129 0))) (cond (Nat.blt j 526) (cond (Nat.blt j 525) (cond (Nat.beq j 524) B_R_queue_129 0) (cond (Nat.beq j 525) B_R_owes_129 0)) (cond (Nat.blt j 527) (cond (Nat.beq j 526) B_R_home_129 0) (cond (Nat.beq j 527) B_R_pickup_129 0)))) (cond (Nat.blt j 532) (cond (Nat.blt j 530) (cond (Nat.blt j 529) (cond (Nat.beq j 528) B_R_routes_129 0) (cond (Nat.beq j 529) B_R_bring_129 0)) (cond (Nat.blt j 531) (cond (Nat.beq j 530) B_R_where_129 0) (cond (Nat.beq j 531) B_R_book_129 0))) (cond (Nat.blt j 534) (cond (Nat.blt j 533) (cond (Nat.beq j 532) B_R_unbook_129 0) (cond (Nat.beq j 533) B_R_mark_129 0)) (cond (Nat.blt j 535) (cond (Nat.beq j 534) B_R_shelf_129 0) (cond (Nat.blt j 536) (cond (Nat.beq j 535) B_R_standsAhead_129 0) (cond (Nat.beq j 536) B_R_checks_129 0))))))) (cond (Nat.blt j 554) (cond (Nat.blt j 545) (cond (Nat.blt j 541) (cond (Nat.blt j 539) (cond (Nat.blt j 538) (cond (Nat.beq j 537) B_R_strict_129 0) (cond (Nat.beq j 538) B_R_broke_129 0)) (cond (Nat.blt j 540) (cond (Nat.beq j 539) B_R_batch_129 0) (cond (Nat.beq j 540) B_R_result_129 0))) (cond (Nat.blt j 543) (cond (Nat.blt j 542) (cond (Nat.beq j 541) B_R_retention_129 0) (cond (Nat.beq j 542) B_R_freeze_129 0)) (cond (Nat.blt j 544) (cond (Nat.beq j 543) B_R_due_129 0) (cond (Nat.beq j 544) B_R_dispose_129 0)))) (cond (Nat.blt j 549) (cond (Nat.blt j 547) (cond (Nat.blt j 546) (cond (Nat.beq j 545) B_R_exchange_129 0) (cond (Nat.beq j 546) B_R_serial_129 0)) (cond (Nat.blt j 548) (cond (Nat.beq j 547) B_R_issue_129 0) (cond (Nat.beq j 548) B_R_came_129 0))) (cond (Nat.blt j 551) (cond (Nat.blt j 550) (cond (Nat.beq j 549) B_R_claim_129 0) (cond (Nat.beq j 550) B_R_nextClaim_129 0)) (cond (Nat.blt j 552) (cond (Nat.beq j 551) B_R_isBehind_0 0) (cond (Nat.blt j 553) (cond (Nat.beq j 552) B_R_fund_129 0) (cond (Nat.beq j 553) B_R_order_129 0)))))) (cond (Nat.blt j 563) (cond (Nat.blt j 558) (cond (Nat.blt j 556) (cond (Nat.blt j 555) (cond (Nat.beq j 554) B_R_invoice_129 0) (cond (Nat.beq j 555) B_R_cancel_129 0)) (cond (Nat.blt j 557) (cond (Nat.beq j 556) B_R_transfer_129 0) (cond (Nat.beq j 557) B_R_money_129 0))) (cond (Nat.blt j 560) (cond (Nat.blt j 559) (cond (Nat.beq j 558) B_R_pack_129 0) (cond (Nat.beq j 559) B_R_answers_129 0)) (cond (Nat.blt j 561) (cond (Nat.beq j 560) B_R_alter_129 0) (cond (Nat.blt j 562) (cond (Nat.beq j 561) B_R_lose_129 0) (cond (Nat.beq j 562) B_R_mend_129 0))))) (cond (Nat.blt j 567) (cond (Nat.blt j 565) (cond (Nat.blt j 564) (cond (Nat.beq j 563) B_R_octet_129 0) (cond (Nat.beq j 564) B_R_load_129 0)) (cond (Nat.blt j 566) (cond (Nat.beq j 565) B_R_harvest_129 0) (cond (Nat.beq j 566) B_R_next_129 0))) (cond (Nat.blt j 569) (cond (Nat.blt j 568) (cond (Nat.beq j 567) B_R_broken_129 0) (cond (Nat.beq j 568) B_R_badlyLent_129 0)) (cond (Nat.blt j 570) (cond (Nat.beq j 569) B_R_idle_129 0) (cond (Nat.blt j 571) (cond (Nat.beq j 570) B_R_rings_129 0) (cond (Nat.beq j 571) B_R_doubled_129 0)))))))))))
abbrev w_E : Type := Bool × Nat × (Nat → Int32)
def Ta : w_T := pg_T
/-- the cells of the class; those of the reference -/
def Tc : w_T := (fun a => cond (Nat.blt a 129) (pg_T.1 a) none, fun a => cond (Nat.blt a 129) (pg_T.2 a) none)
def Tr : w_T := (fun a => cond (Nat.blt a 129) none (pg_T.1 a), fun a => cond (Nat.blt a 129) none (pg_T.2 a))
theorem TaU : w_TU Ta := pg_TU
theorem Tc_1 {a : Nat} {x : Nat × Nat} (h : Tc.1 a = some x) : pg_T.1 a = some x := by
  have h : cond (Nat.blt a 129) (pg_T.1 a) none = some x := h
  cases hb : Nat.blt a 129 with
  | true => rw [hb] at h; exact h
  | false => rw [hb] at h; cases h
theorem Tc_2 {a : Nat} {x : Nat × Nat × (Nat → Nat × Nat)} (h : Tc.2 a = some x) : pg_T.2 a = some x := by
  have h : cond (Nat.blt a 129) (pg_T.2 a) none = some x := h
  cases hb : Nat.blt a 129 with
  | true => rw [hb] at h; exact h
  | false => rw [hb] at h; cases h
theorem Tr_1 {a : Nat} {x : Nat × Nat} (h : Tr.1 a = some x) : pg_T.1 a = some x := by
  have h : cond (Nat.blt a 129) none (pg_T.1 a) = some x := h
  cases hb : Nat.blt a 129 with
  | false => rw [hb] at h; exact h
  | true => rw [hb] at h; cases h
theorem Tr_2 {a : Nat} {x : Nat × Nat × (Nat → Nat × Nat)} (h : Tr.2 a = some x) : pg_T.2 a = some x := by
  have h : cond (Nat.blt a 129) none (pg_T.2 a) = some x := h
  cases hb : Nat.blt a 129 with
  | false => rw [hb] at h; exact h
  | true => rw [hb] at h; cases h
theorem TcU : w_TU Tc := ⟨fun a ci n fk a' ci' n' fk' k k' j h h' hk hk' => pg_TU.1 a ci n fk a' ci' n' fk' k k' j (Tc_2 h) (Tc_2 h') hk hk', fun a t n h => pg_TU.2 a t n (Tc_1 h)⟩
theorem TrU : w_TU Tr := ⟨fun a ci n fk a' ci' n' fk' k k' j h h' hk hk' => pg_TU.1 a ci n fk a' ci' n' fk' k k' j (Tr_2 h) (Tr_2 h') hk hk', fun a t n h => pg_TU.2 a t n (Tr_1 h)⟩
def X (T : w_T) (e : w_E) (B : Nat) (m : Bool → rm_M) (pc : Nat) (ls : w_L) (st : List w_V) (S : w_S) (Q : Option w_V → w_S → Prop) : Prop := WP (pg_G e.1 e.2.1 e.2.2) pg_fin (pg_pr e.1) T pg_Bs B (m e.1) pc ls st S Q
def Xi (T : w_T) (e : w_E) (B : Nat) (m : Bool → rm_M) (ls : w_L) (S : w_S) (K : Int → w_S → Prop) : Prop := X T e B m 0 ls [] S (fun r S' => ∃ y, r = some (.inl y) ∧ (w_n y → w_Q T S' → w_fr T B S S' → K y S'))
def Xl (T : w_T) (e : w_E) (B : Nat) (m : Bool → rm_M) (ls : w_L) (S : w_S) (K : Int → w_S → Prop) : Prop := X T e B m 0 ls [] S (fun r S' => ∃ y, r = some (.inr (.inr (.inr y))) ∧ (w_n64 y → w_Q T S' → w_fr T B S S' → K y S'))
def Xv (T : w_T) (e : w_E) (B : Nat) (m : Bool → rm_M) (ls : w_L) (S : w_S) (K : w_S → Prop) : Prop := X T e B m 0 ls [] S (fun r S' => r = none ∧ (w_Q T S' → w_fr T B S S' → K S'))
abbrev m_C_feed : Bool → rm_M := pg_m12
abbrev m_Tape_put : Bool → rm_M := pg_m14
abbrev m_C_end : Bool → rm_M := pg_m15
abbrev m_C_tick : Bool → rm_M := pg_m16
abbrev m_C_act : Bool → rm_M := pg_m17
abbrev m_Tape_openText : Bool → rm_M := pg_m18
abbrev m_C_perform : Bool → rm_M := pg_m19
abbrev m_Lending_passTo : Bool → rm_M := pg_m20
abbrev m_Lending_firstArrival : Bool → rm_M := pg_m21
abbrev m_Lending_direct : Bool → rm_M := pg_m22
abbrev m_RuleBook_arrivalDay : Bool → rm_M := pg_m23
abbrev m_Arrays_fill : Bool → rm_M := pg_m24
abbrev m_Lending_settle : Bool → rm_M := pg_m26
abbrev m_Lending_takeFirstQueued : Bool → rm_M := pg_m27
abbrev m_Lending_removeQueued : Bool → rm_M := pg_m28
abbrev m_C_dropRecord : Bool → rm_M := pg_m29
abbrev m_Lending_hasCopyLeft : Bool → rm_M := pg_m31
abbrev m_Buying_hasSerial : Bool → rm_M := pg_m32
abbrev m_Lending_queueLength : Bool → rm_M := pg_m33
abbrev m_Authority_setBroader : Bool → rm_M := pg_m35
abbrev m_Authority_isUnder : Bool → rm_M := pg_m37
abbrev m_C_linkField : Bool → rm_M := pg_m38
abbrev m_Catalog_copyTo : Bool → rm_M := pg_m39
abbrev m_Authority_linkedHeading : Bool → rm_M := pg_m40
abbrev m_Draft_slotOf : Bool → rm_M := pg_m41
abbrev m_Readers_addReader : Bool → rm_M := pg_m43
abbrev m_Lending_addCopy : Bool → rm_M := pg_m44
abbrev m_Lending_putAway : Bool → rm_M := pg_m45
abbrev m_RuleBook_closeDay : Bool → rm_M := pg_m47
abbrev m_RuleBook_closedBetween : Bool → rm_M := pg_m49
abbrev m_Lending_lendTo : Bool → rm_M := pg_m50
abbrev m_Readers_isBookedByOther : Bool → rm_M := pg_m52
abbrev m_RuleBook_ruleFor : Bool → rm_M := pg_m54
abbrev m_Readers_openLoans : Bool → rm_M := pg_m55
abbrev m_Lending_dueDay : Bool → rm_M := pg_m57
abbrev m_Readers_firstBookedByOther : Bool → rm_M := pg_m58
abbrev m_RuleBook_openDay : Bool → rm_M := pg_m59
abbrev m_Lending_renewLoan : Bool → rm_M := pg_m62
abbrev m_Lending_tellPlace : Bool → rm_M := pg_m63
abbrev m_Lending_takeBack : Bool → rm_M := pg_m64
abbrev m_Lending_fineOf : Bool → rm_M := pg_m66
abbrev m_Lending_enterQueue : Bool → rm_M := pg_m67
abbrev m_Lending_queuedAt : Bool → rm_M := pg_m68
abbrev m_Lending_copyFor : Bool → rm_M := pg_m69
abbrev m_Lending_insertQueued : Bool → rm_M := pg_m70
abbrev m_Lending_leaveQueue : Bool → rm_M := pg_m71
abbrev m_Readers_takeMoney : Bool → rm_M := pg_m72
abbrev m_Buying_receive : Bool → rm_M := pg_m73
abbrev m_Buying_addFund : Bool → rm_M := pg_m75
abbrev m_Buying_addOrder : Bool → rm_M := pg_m76
abbrev m_Buying_chargeOrder : Bool → rm_M := pg_m79
abbrev m_Buying_cancelOrder : Bool → rm_M := pg_m80
abbrev m_Buying_moveMoney : Bool → rm_M := pg_m81
abbrev m_Stores_setAnswering : Bool → rm_M := pg_m82
abbrev m_Stores_alterByte : Bool → rm_M := pg_m83
abbrev m_Stores_hasCopy : Bool → rm_M := pg_m84
abbrev m_Stores_loseCopy : Bool → rm_M := pg_m87
abbrev m_Stores_mendPackage : Bool → rm_M := pg_m88
abbrev m_Stores_majorityStore : Bool → rm_M := pg_m89
abbrev m_Stores_isSameOn : Bool → rm_M := pg_m91
abbrev m_Stores_nextStore : Bool → rm_M := pg_m93
abbrev m_Stores_copiesOn : Bool → rm_M := pg_m94
abbrev m_Stores_copiesOf : Bool → rm_M := pg_m95
abbrev m_Lending_setHome : Bool → rm_M := pg_m96
abbrev m_Readers_setPickup : Bool → rm_M := pg_m97
abbrev m_Lending_bookCopy : Bool → rm_M := pg_m98
abbrev m_Readers_isBookedBetween : Bool → rm_M := pg_m99
abbrev m_Readers_takeBookingBack : Bool → rm_M := pg_m101
abbrev m_RuleBook_setStrict : Bool → rm_M := pg_m102
abbrev m_Catalog_setFrozen : Bool → rm_M := pg_m103
abbrev m_C_disposeAll : Bool → rm_M := pg_m104
abbrev m_C_mayDispose : Bool → rm_M := pg_m105
abbrev m_Lending_isInUse : Bool → rm_M := pg_m106
abbrev m_Authority_layNames : Bool → rm_M := pg_m108
abbrev m_Authority_nameOn : Bool → rm_M := pg_m109
abbrev m_RuleBook_daysToKeep : Bool → rm_M := pg_m110
abbrev m_Tape_compareRows : Bool → rm_M := pg_m112
abbrev m_Lending_putAllAway : Bool → rm_M := pg_m113
abbrev m_C_readNewVersion : Bool → rm_M := pg_m115
abbrev m_Draft_readRecord : Bool → rm_M := pg_m116
abbrev m_Tape_peek : Bool → rm_M := pg_m117
abbrev m_Draft_readField : Bool → rm_M := pg_m118
abbrev m_Tape_takeTag : Bool → rm_M := pg_m119
abbrev m_Tape_takeByte : Bool → rm_M := pg_m120
abbrev m_Tape_takeIndicator : Bool → rm_M := pg_m121
abbrev m_Draft_addField : Bool → rm_M := pg_m122
abbrev m_Tape_takeRow : Bool → rm_M := pg_m123
abbrev m_Draft_addSubfield : Bool → rm_M := pg_m124
abbrev m_Tape_takeCode : Bool → rm_M := pg_m125
abbrev m_Tape_takeEnd : Bool → rm_M := pg_m126
abbrev m_RuleBook_isAnyBroken : Bool → rm_M := pg_m129
abbrev m_RuleBook_isBroken : Bool → rm_M := pg_m130
abbrev m_Draft_longestRow : Bool → rm_M := pg_m131
abbrev m_Catalog_addRecord : Bool → rm_M := pg_m132
abbrev m_Catalog_addVersion : Bool → rm_M := pg_m133
abbrev m_C_editRecord : Bool → rm_M := pg_m134
abbrev m_Catalog_versionsOf : Bool → rm_M := pg_m135
abbrev m_Authority_addHeading : Bool → rm_M := pg_m136
abbrev m_Authority_isNamed : Bool → rm_M := pg_m137
abbrev m_Authority_renameHeading : Bool → rm_M := pg_m139
abbrev m_RuleBook_readLines : Bool → rm_M := pg_m140
abbrev m_Tape_takeBetween : Bool → rm_M := pg_m143
abbrev m_Tape_takeNumber : Bool → rm_M := pg_m144
abbrev m_RuleBook_readWeekdays : Bool → rm_M := pg_m146
abbrev m_Tape_stopHere : Bool → rm_M := pg_m148
abbrev m_Tape_takeWord : Bool → rm_M := pg_m150
abbrev m_String_length : Bool → rm_M := pg_m151
abbrev m_Buying_addSerial : Bool → rm_M := pg_m164
abbrev m_Buying_readMonths : Bool → rm_M := pg_m165
abbrev m_Buying_foretell : Bool → rm_M := pg_m166
abbrev m_Stores_addPackage : Bool → rm_M := pg_m167
abbrev m_Lending_setMark : Bool → rm_M := pg_m168
abbrev m_Lending_readTail : Bool → rm_M := pg_m169
abbrev m_C_runBatch : Bool → rm_M := pg_m170
abbrev m_Question_readQuestion : Bool → rm_M := pg_m171
abbrev m_Question_openBrackets : Bool → rm_M := pg_m172
abbrev m_Question_pushWaiting : Bool → rm_M := pg_m173
abbrev m_Question_readWords : Bool → rm_M := pg_m175
abbrev m_Tape_takeSmallWord : Bool → rm_M := pg_m176
abbrev m_Question_addWord : Bool → rm_M := pg_m177
abbrev m_Question_addToProgram : Bool → rm_M := pg_m178
abbrev m_Question_closeBrackets : Bool → rm_M := pg_m179
abbrev m_Question_settleWaiting : Bool → rm_M := pg_m180
abbrev m_C_searchAll : Bool → rm_M := pg_m182
abbrev m_Question_splitWords : Bool → rm_M := pg_m183
abbrev m_Question_splitRow : Bool → rm_M := pg_m184
abbrev m_Question_isMet : Bool → rm_M := pg_m186
abbrev m_Question_isTermMet : Bool → rm_M := pg_m187
abbrev m_Question_isPhraseAt : Bool → rm_M := pg_m189
abbrev m_Desk_fileRecord : Bool → rm_M := pg_m190
abbrev m_Desk_compareTitles : Bool → rm_M := pg_m191
abbrev m_Desk_endOf : Bool → rm_M := pg_m192
abbrev m_Desk_compareElements : Bool → rm_M := pg_m193
abbrev m_C_changeRecord : Bool → rm_M := pg_m194
abbrev m_Draft_removeFields : Bool → rm_M := pg_m196
abbrev m_Draft_setRows : Bool → rm_M := pg_m198
abbrev m_Draft_hasRightSize : Bool → rm_M := pg_m200
abbrev m_Catalog_isSame : Bool → rm_M := pg_m201
abbrev m_C_runMessage : Bool → rm_M := pg_m202
abbrev m_C_record : Bool → rm_M := pg_m205
abbrev m_C_edit : Bool → rm_M := pg_m206
abbrev m_C_drop : Bool → rm_M := pg_m207
abbrev m_C_print : Bool → rm_M := pg_m208
abbrev m_Catalog_versionOn : Bool → rm_M := pg_m209
abbrev m_Desk_writeText : Bool → rm_M := pg_m210
abbrev m_Desk_writeNumber : Bool → rm_M := pg_m211
abbrev m_Desk_writeField : Bool → rm_M := pg_m213
abbrev m_Desk_writeExchange : Bool → rm_M := pg_m214
abbrev m_Draft_exchangeBytes : Bool → rm_M := pg_m215
abbrev m_C_printed : Bool → rm_M := pg_m216
abbrev m_C_heading : Bool → rm_M := pg_m217
abbrev m_C_rename : Bool → rm_M := pg_m218
abbrev m_C_broader : Bool → rm_M := pg_m219
abbrev m_C_link : Bool → rm_M := pg_m220
abbrev m_C_find : Bool → rm_M := pg_m221
abbrev m_C_hit : Bool → rm_M := pg_m222
abbrev m_C_value : Bool → rm_M := pg_m223
abbrev m_Desk_addValues : Bool → rm_M := pg_m224
abbrev m_Desk_addValue : Bool → rm_M := pg_m225
abbrev m_Desk_valueOfRank : Bool → rm_M := pg_m226
abbrev m_Tape_rowByte : Bool → rm_M := pg_m227
abbrev m_C_reader : Bool → rm_M := pg_m228
abbrev m_C_copy : Bool → rm_M := pg_m229
abbrev m_C_away : Bool → rm_M := pg_m230
abbrev m_C_rules : Bool → rm_M := pg_m231
abbrev m_C_closed : Bool → rm_M := pg_m232
abbrev m_C_lend : Bool → rm_M := pg_m233
abbrev m_C_renew : Bool → rm_M := pg_m234
abbrev m_C_back : Bool → rm_M := pg_m235
abbrev m_C_hold : Bool → rm_M := pg_m236
abbrev m_C_unhold : Bool → rm_M := pg_m237
abbrev m_C_pay : Bool → rm_M := pg_m238
abbrev m_C_state : Bool → rm_M := pg_m239
abbrev m_Lending_tellState : Bool → rm_M := pg_m240
abbrev m_C_queue : Bool → rm_M := pg_m241
abbrev m_Lending_queuedReader : Bool → rm_M := pg_m242
abbrev m_C_owes : Bool → rm_M := pg_m243
abbrev m_C_serial : Bool → rm_M := pg_m244
abbrev m_C_issue : Bool → rm_M := pg_m245
abbrev m_Buying_tellIssue : Bool → rm_M := pg_m246
abbrev m_C_came : Bool → rm_M := pg_m247
abbrev m_C_claim : Bool → rm_M := pg_m248
abbrev m_Buying_claimOfRank : Bool → rm_M := pg_m249
abbrev m_Buying_goToClaim : Bool → rm_M := pg_m250
abbrev m_C_fund : Bool → rm_M := pg_m251
abbrev m_C_order : Bool → rm_M := pg_m252
abbrev m_C_invoice : Bool → rm_M := pg_m253
abbrev m_C_cancel : Bool → rm_M := pg_m254
abbrev m_C_transfer : Bool → rm_M := pg_m255
abbrev m_C_money : Bool → rm_M := pg_m256
abbrev m_Buying_tellMoney : Bool → rm_M := pg_m257
abbrev m_C_pack : Bool → rm_M := pg_m258
abbrev m_C_answers : Bool → rm_M := pg_m259
abbrev m_C_alter : Bool → rm_M := pg_m260
abbrev m_C_lose : Bool → rm_M := pg_m261
abbrev m_C_mend : Bool → rm_M := pg_m262
abbrev m_C_octet : Bool → rm_M := pg_m263
abbrev m_Stores_octetOf : Bool → rm_M := pg_m264
abbrev m_C_load : Bool → rm_M := pg_m265
abbrev m_C_harvest : Bool → rm_M := pg_m266
abbrev m_Desk_openToken : Bool → rm_M := pg_m267
abbrev m_C_next : Bool → rm_M := pg_m268
abbrev m_Desk_nextChanged : Bool → rm_M := pg_m269
abbrev m_C_sync : Bool → rm_M := pg_m270
abbrev m_C_power : Bool → rm_M := pg_m271
abbrev m_C_rewind : Bool → rm_M := pg_m272
abbrev m_Stores_restart : Bool → rm_M := pg_m280
abbrev m_Desk_restart : Bool → rm_M := pg_m281
abbrev m_C_count : Bool → rm_M := pg_m282
abbrev m_C_broken : Bool → rm_M := pg_m283
abbrev m_Lending_wronglyLent : Bool → rm_M := pg_m284
abbrev m_Readers_openLoansOf : Bool → rm_M := pg_m285
abbrev m_Lending_wronglyIn : Bool → rm_M := pg_m286
abbrev m_Buying_overspentFunds : Bool → rm_M := pg_m287
abbrev m_Authority_ringedHeadings : Bool → rm_M := pg_m288
abbrev m_Lending_wronglyQueued : Bool → rm_M := pg_m289
abbrev m_C_home : Bool → rm_M := pg_m290
abbrev m_C_pickup : Bool → rm_M := pg_m291
abbrev m_C_routes : Bool → rm_M := pg_m292
abbrev m_C_bring : Bool → rm_M := pg_m293
abbrev m_C_where : Bool → rm_M := pg_m294
abbrev m_C_book : Bool → rm_M := pg_m295
abbrev m_C_unbook : Bool → rm_M := pg_m296
abbrev m_C_mark : Bool → rm_M := pg_m297
abbrev m_C_shelf : Bool → rm_M := pg_m298
abbrev m_Lending_shelved : Bool → rm_M := pg_m299
abbrev m_Lending_shelvedAhead : Bool → rm_M := pg_m301
abbrev m_C_checks : Bool → rm_M := pg_m302
abbrev m_C_strict : Bool → rm_M := pg_m303
abbrev m_C_broke : Bool → rm_M := pg_m304
abbrev m_C_batch : Bool → rm_M := pg_m305
abbrev m_C_result : Bool → rm_M := pg_m306
abbrev m_C_retention : Bool → rm_M := pg_m307
abbrev m_C_freeze : Bool → rm_M := pg_m308
abbrev m_C_due : Bool → rm_M := pg_m309
abbrev m_C_dispose : Bool → rm_M := pg_m310
abbrev m_C_exchange : Bool → rm_M := pg_m311
abbrev m_C_deed : Bool → rm_M := pg_m312
abbrev m_C_done : Bool → rm_M := pg_m313
abbrev m_C_tally : Bool → rm_M := pg_m314
abbrev m_Lending_copiesUnderWay : Bool → rm_M := pg_m315
abbrev m_R_feed : Bool → rm_M := pg_m317
abbrev m_R_put : Bool → rm_M := pg_m318
abbrev m_R_end : Bool → rm_M := pg_m319
abbrev m_R_sync : Bool → rm_M := pg_m320
abbrev m_R_power : Bool → rm_M := pg_m321
abbrev m_R_again : Bool → rm_M := pg_m323
abbrev m_R_forget : Bool → rm_M := pg_m324
abbrev m_R_repeats : Bool → rm_M := pg_m325
abbrev m_R_batchText : Bool → rm_M := pg_m326
abbrev m_R_question : Bool → rm_M := pg_m327
abbrev m_R_at : Bool → rm_M := pg_m328
abbrev m_R_term : Bool → rm_M := pg_m329
abbrev m_R_numeral : Bool → rm_M := pg_m330
abbrev m_R_phrase : Bool → rm_M := pg_m332
abbrev m_R_word : Bool → rm_M := pg_m333
abbrev m_R_close : Bool → rm_M := pg_m335
abbrev m_R_literal : Bool → rm_M := pg_m336
abbrev m_R_operator : Bool → rm_M := pg_m337
abbrev m_R_stepText : Bool → rm_M := pg_m338
abbrev m_R_fieldText : Bool → rm_M := pg_m339
abbrev m_R_row : Bool → rm_M := pg_m340
abbrev m_R_subfields : Bool → rm_M := pg_m342
abbrev m_R_tagText : Bool → rm_M := pg_m343
abbrev m_R_versionOn : Bool → rm_M := pg_m344
abbrev m_R_takeVersion : Bool → rm_M := pg_m345
abbrev m_R_doMove : Bool → rm_M := pg_m346
abbrev m_R_fieldEnd : Bool → rm_M := pg_m347
abbrev m_R_putBytes : Bool → rm_M := pg_m349
abbrev m_R_firstCode : Bool → rm_M := pg_m350
abbrev m_R_rowEnd : Bool → rm_M := pg_m351
abbrev m_R_addVersion : Bool → rm_M := pg_m352
abbrev m_R_perform : Bool → rm_M := pg_m353
abbrev m_R_doTick : Bool → rm_M := pg_m354
abbrev m_R_arrivals : Bool → rm_M := pg_m356
abbrev m_R_shelve : Bool → rm_M := pg_m357
abbrev m_R_arrival : Bool → rm_M := pg_m359
abbrev m_R_goes : Bool → rm_M := pg_m360
abbrev m_R_settle : Bool → rm_M := pg_m361
abbrev m_R_inQueue : Bool → rm_M := pg_m362
abbrev m_R_ahead : Bool → rm_M := pg_m363
abbrev m_R_unqueue : Bool → rm_M := pg_m365
abbrev m_R_doRecord : Bool → rm_M := pg_m366
abbrev m_R_recordText : Bool → rm_M := pg_m367
abbrev m_R_firstBroken : Bool → rm_M := pg_m369
abbrev m_R_breaks : Bool → rm_M := pg_m370
abbrev m_R_longest : Bool → rm_M := pg_m371
abbrev m_R_doEdit : Bool → rm_M := pg_m372
abbrev m_R_isRecord : Bool → rm_M := pg_m373
abbrev m_R_doDrop : Bool → rm_M := pg_m374
abbrev m_R_doHeading : Bool → rm_M := pg_m375
abbrev m_R_isName : Bool → rm_M := pg_m377
abbrev m_R_nameOn : Bool → rm_M := pg_m378
abbrev m_R_addName : Bool → rm_M := pg_m379
abbrev m_R_doRename : Bool → rm_M := pg_m380
abbrev m_R_doBroader : Bool → rm_M := pg_m381
abbrev m_R_doLink : Bool → rm_M := pg_m382
abbrev m_R_firstA : Bool → rm_M := pg_m383
abbrev m_R_linkedOn : Bool → rm_M := pg_m384
abbrev m_R_doReader : Bool → rm_M := pg_m385
abbrev m_R_doCopy : Bool → rm_M := pg_m386
abbrev m_R_doAway : Bool → rm_M := pg_m387
abbrev m_R_doRules : Bool → rm_M := pg_m389
abbrev m_R_rulesText : Bool → rm_M := pg_m390
abbrev m_R_ruleText : Bool → rm_M := pg_m391
abbrev m_R_doClosed : Bool → rm_M := pg_m392
abbrev m_R_isShut : Bool → rm_M := pg_m393
abbrev m_R_doLend : Bool → rm_M := pg_m394
abbrev m_R_isBookedNow : Bool → rm_M := pg_m396
abbrev m_R_ruleOf : Bool → rm_M := pg_m398
abbrev m_R_lentTo : Bool → rm_M := pg_m399
abbrev m_R_open : Bool → rm_M := pg_m400
abbrev m_R_dueBy : Bool → rm_M := pg_m401
abbrev m_R_doRenew : Bool → rm_M := pg_m402
abbrev m_R_doBack : Bool → rm_M := pg_m403
abbrev m_R_doHold : Bool → rm_M := pg_m404
abbrev m_R_waitsFor : Bool → rm_M := pg_m405
abbrev m_R_hasCopy : Bool → rm_M := pg_m406
abbrev m_R_doUnhold : Bool → rm_M := pg_m407
abbrev m_R_doPay : Bool → rm_M := pg_m408
abbrev m_R_doSerial : Bool → rm_M := pg_m409
abbrev m_R_patternText : Bool → rm_M := pg_m410
abbrev m_R_months : Bool → rm_M := pg_m411
abbrev m_R_doCame : Bool → rm_M := pg_m412
abbrev m_R_isIssue : Bool → rm_M := pg_m413
abbrev m_R_performRest : Bool → rm_M := pg_m414
abbrev m_R_doFund : Bool → rm_M := pg_m415
abbrev m_R_doOrder : Bool → rm_M := pg_m416
abbrev m_R_doInvoice : Bool → rm_M := pg_m419
abbrev m_R_doCancel : Bool → rm_M := pg_m420
abbrev m_R_doTransfer : Bool → rm_M := pg_m421
abbrev m_R_doPack : Bool → rm_M := pg_m422
abbrev m_R_storeFor : Bool → rm_M := pg_m423
abbrev m_R_loadOf : Bool → rm_M := pg_m424
abbrev m_R_doAnswers : Bool → rm_M := pg_m425
abbrev m_R_doAlter : Bool → rm_M := pg_m427
abbrev m_R_hasPack : Bool → rm_M := pg_m428
abbrev m_R_doLose : Bool → rm_M := pg_m430
abbrev m_R_doMend : Bool → rm_M := pg_m431
abbrev m_R_majority : Bool → rm_M := pg_m432
abbrev m_R_isAlike : Bool → rm_M := pg_m433
abbrev m_R_copyOctets : Bool → rm_M := pg_m434
abbrev m_R_copiesOf : Bool → rm_M := pg_m435
abbrev m_R_doHome : Bool → rm_M := pg_m436
abbrev m_R_doPickup : Bool → rm_M := pg_m438
abbrev m_R_doRoutes : Bool → rm_M := pg_m439
abbrev m_R_routeText : Bool → rm_M := pg_m440
abbrev m_R_doBring : Bool → rm_M := pg_m441
abbrev m_R_doBook : Bool → rm_M := pg_m442
abbrev m_R_doUnbook : Bool → rm_M := pg_m443
abbrev m_R_doMark : Bool → rm_M := pg_m444
abbrev m_R_callText : Bool → rm_M := pg_m445
abbrev m_R_doChecks : Bool → rm_M := pg_m446
abbrev m_R_checkText : Bool → rm_M := pg_m447
abbrev m_R_doStrict : Bool → rm_M := pg_m448
abbrev m_R_doBatch : Bool → rm_M := pg_m449
abbrev m_R_findAll : Bool → rm_M := pg_m450
abbrev m_R_build : Bool → rm_M := pg_m451
abbrev m_R_copyToPage : Bool → rm_M := pg_m452
abbrev m_R_answersAll : Bool → rm_M := pg_m453
abbrev m_R_meets : Bool → rm_M := pg_m454
abbrev m_R_fieldMeets : Bool → rm_M := pg_m456
abbrev m_R_rowMeets : Bool → rm_M := pg_m457
abbrev m_R_isLetter : Bool → rm_M := pg_m459
abbrev m_R_stands : Bool → rm_M := pg_m461
abbrev m_R_readTitle : Bool → rm_M := pg_m462
abbrev m_R_isAhead : Bool → rm_M := pg_m463
abbrev m_R_compareTitles : Bool → rm_M := pg_m464
abbrev m_R_element : Bool → rm_M := pg_m465
abbrev m_R_compareElements : Bool → rm_M := pg_m466
abbrev m_R_swapFound : Bool → rm_M := pg_m467
abbrev m_R_isRight : Bool → rm_M := pg_m468
abbrev m_R_isVersion : Bool → rm_M := pg_m469
abbrev m_R_doRetention : Bool → rm_M := pg_m470
abbrev m_R_keepText : Bool → rm_M := pg_m471
abbrev m_R_doFreeze : Bool → rm_M := pg_m472
abbrev m_R_doDispose : Bool → rm_M := pg_m473
abbrev m_R_mayGo : Bool → rm_M := pg_m474
abbrev m_R_fits : Bool → rm_M := pg_m475
abbrev m_R_doExchange : Bool → rm_M := pg_m476
abbrev m_R_messageText : Bool → rm_M := pg_m477
abbrev m_R_forgetAsked : Bool → rm_M := pg_m479
abbrev m_R_deed : Bool → rm_M := pg_m480
abbrev m_R_done : Bool → rm_M := pg_m481
abbrev m_R_tally : Bool → rm_M := pg_m482
abbrev m_R_underWay : Bool → rm_M := pg_m483
abbrev m_R_count : Bool → rm_M := pg_m484
abbrev m_R_tick : Bool → rm_M := pg_m485
abbrev m_R_hasText : Bool → rm_M := pg_m487
abbrev m_R_takeTape : Bool → rm_M := pg_m488
abbrev m_R_note : Bool → rm_M := pg_m489
abbrev m_R_record : Bool → rm_M := pg_m491
abbrev m_R_edit : Bool → rm_M := pg_m492
abbrev m_R_drop : Bool → rm_M := pg_m493
abbrev m_R_print : Bool → rm_M := pg_m494
abbrev m_R_writeExchange : Bool → rm_M := pg_m495
abbrev m_R_exchangeField : Bool → rm_M := pg_m496
abbrev m_R_writeDigits : Bool → rm_M := pg_m498
abbrev m_R_printed : Bool → rm_M := pg_m499
abbrev m_R_heading : Bool → rm_M := pg_m500
abbrev m_R_rename : Bool → rm_M := pg_m501
abbrev m_R_broader : Bool → rm_M := pg_m502
abbrev m_R_link : Bool → rm_M := pg_m503
abbrev m_R_find : Bool → rm_M := pg_m504
abbrev m_R_hit : Bool → rm_M := pg_m505
abbrev m_R_value : Bool → rm_M := pg_m506
abbrev m_R_gatherValues : Bool → rm_M := pg_m507
abbrev m_R_addValue : Bool → rm_M := pg_m508
abbrev m_R_isValue : Bool → rm_M := pg_m509
abbrev m_R_isValueAhead : Bool → rm_M := pg_m510
abbrev m_R_swapValues : Bool → rm_M := pg_m511
abbrev m_R_reader : Bool → rm_M := pg_m512
abbrev m_R_copy : Bool → rm_M := pg_m513
abbrev m_R_away : Bool → rm_M := pg_m514
abbrev m_R_rules : Bool → rm_M := pg_m515
abbrev m_R_closed : Bool → rm_M := pg_m516
abbrev m_R_lend : Bool → rm_M := pg_m517
abbrev m_R_renew : Bool → rm_M := pg_m518
abbrev m_R_back : Bool → rm_M := pg_m519
abbrev m_R_hold : Bool → rm_M := pg_m520
abbrev m_R_unhold : Bool → rm_M := pg_m521
abbrev m_R_pay : Bool → rm_M := pg_m522
abbrev m_R_state : Bool → rm_M := pg_m523
abbrev m_R_queue : Bool → rm_M := pg_m524
abbrev m_R_owes : Bool → rm_M := pg_m525
abbrev m_R_home : Bool → rm_M := pg_m526
abbrev m_R_pickup : Bool → rm_M := pg_m527
abbrev m_R_routes : Bool → rm_M := pg_m528
abbrev m_R_bring : Bool → rm_M := pg_m529
abbrev m_R_where : Bool → rm_M := pg_m530
abbrev m_R_book : Bool → rm_M := pg_m531
abbrev m_R_unbook : Bool → rm_M := pg_m532
abbrev m_R_mark : Bool → rm_M := pg_m533
abbrev m_R_shelf : Bool → rm_M := pg_m534
abbrev m_R_standsAhead : Bool → rm_M := pg_m535
abbrev m_R_checks : Bool → rm_M := pg_m536
abbrev m_R_strict : Bool → rm_M := pg_m537
abbrev m_R_broke : Bool → rm_M := pg_m538
abbrev m_R_batch : Bool → rm_M := pg_m539
abbrev m_R_result : Bool → rm_M := pg_m540
abbrev m_R_retention : Bool → rm_M := pg_m541
abbrev m_R_freeze : Bool → rm_M := pg_m542
abbrev m_R_due : Bool → rm_M := pg_m543
abbrev m_R_dispose : Bool → rm_M := pg_m544
abbrev m_R_exchange : Bool → rm_M := pg_m545
abbrev m_R_serial : Bool → rm_M := pg_m546
abbrev m_R_issue : Bool → rm_M := pg_m547
abbrev m_R_came : Bool → rm_M := pg_m548
abbrev m_R_claim : Bool → rm_M := pg_m549
abbrev m_R_nextClaim : Bool → rm_M := pg_m550
abbrev m_R_fund : Bool → rm_M := pg_m552
abbrev m_R_order : Bool → rm_M := pg_m553
abbrev m_R_invoice : Bool → rm_M := pg_m554
abbrev m_R_cancel : Bool → rm_M := pg_m555
abbrev m_R_transfer : Bool → rm_M := pg_m556
abbrev m_R_money : Bool → rm_M := pg_m557
abbrev m_R_pack : Bool → rm_M := pg_m558
abbrev m_R_answers : Bool → rm_M := pg_m559
abbrev m_R_alter : Bool → rm_M := pg_m560
abbrev m_R_lose : Bool → rm_M := pg_m561
abbrev m_R_mend : Bool → rm_M := pg_m562
abbrev m_R_octet : Bool → rm_M := pg_m563
abbrev m_R_load : Bool → rm_M := pg_m564
abbrev m_R_harvest : Bool → rm_M := pg_m565
abbrev m_R_next : Bool → rm_M := pg_m566
abbrev m_R_broken : Bool → rm_M := pg_m567
abbrev m_R_badlyLent : Bool → rm_M := pg_m568
abbrev m_R_idle : Bool → rm_M := pg_m569
abbrev m_R_rings : Bool → rm_M := pg_m570
abbrev m_R_doubled : Bool → rm_M := pg_m571
def ct_C_init : Nat → Option (List Nat) := fun pc => none
def ct_Tape_init : Nat → Option (List Nat) := fun pc => none
def ct_Catalog_init : Nat → Option (List Nat) := fun pc => none
def ct_Authority_init : Nat → Option (List Nat) := fun pc => none
def ct_RuleBook_init : Nat → Option (List Nat) := fun pc => none
def ct_Draft_init : Nat → Option (List Nat) := fun pc => none
def ct_Readers_init : Nat → Option (List Nat) := fun pc => none
def ct_Lending_init : Nat → Option (List Nat) := fun pc => none
def ct_Buying_init : Nat → Option (List Nat) := fun pc => none
def ct_Stores_init : Nat → Option (List Nat) := fun pc => none
def ct_Question_init : Nat → Option (List Nat) := fun pc => none
def ct_Desk_init : Nat → Option (List Nat) := fun pc => none
def ct_C_feed : Nat → Option (List Nat) := fun pc => none
def ct_Tape_hasRoom : Nat → Option (List Nat) := fun pc => none
def ct_Tape_put : Nat → Option (List Nat) := fun pc => (cond (Nat.beq pc 3) (some [0, 1, 2]) none)
def ct_C_end : Nat → Option (List Nat) := fun pc => none
def ct_C_tick : Nat → Option (List Nat) := fun pc => none
def ct_C_act : Nat → Option (List Nat) := fun pc => none
def ct_Tape_openText : Nat → Option (List Nat) := fun pc => none
def ct_C_perform : Nat → Option (List Nat) := fun pc => none
def ct_Lending_passTo : Nat → Option (List Nat) := fun pc => (cond (Nat.beq pc 42) (some [0, 1, 2, 3]) (cond (Nat.beq pc 112) (some [0, 1, 2, 3]) none))
def ct_Lending_firstArrival : Nat → Option (List Nat) := fun pc => (cond (Nat.beq pc 4) (some [0, 1, 2]) none)
def ct_Lending_direct : Nat → Option (List Nat) := fun pc => none
def ct_RuleBook_arrivalDay : Nat → Option (List Nat) := fun pc => (cond (Nat.beq pc 21) (some [0, 2, 3]) (cond (Nat.beq pc 29) (some [0, 2, 3, 4]) (cond (Nat.beq pc 102) (some [0, 2, 3, 4, 5, 6, 7, 8, 9]) none)))
def ct_Arrays_fill : Nat → Option (List Nat) := fun pc => (cond (Nat.beq pc 5) (some [0, 1, 2, 3]) none)
def ct_Lending_setStatus : Nat → Option (List Nat) := fun pc => none
def ct_Lending_settle : Nat → Option (List Nat) := fun pc => none
def ct_Lending_takeFirstQueued : Nat → Option (List Nat) := fun pc => (cond (Nat.beq pc 2) (some [0, 1, 2]) none)
def ct_Lending_removeQueued : Nat → Option (List Nat) := fun pc => (cond (Nat.beq pc 12) (some [0, 2]) none)
def ct_C_dropRecord : Nat → Option (List Nat) := fun pc => none
def ct_Catalog_isThere : Nat → Option (List Nat) := fun pc => none
def ct_Lending_hasCopyLeft : Nat → Option (List Nat) := fun pc => (cond (Nat.beq pc 2) (some [0, 1, 2]) none)
def ct_Buying_hasSerial : Nat → Option (List Nat) := fun pc => (cond (Nat.beq pc 2) (some [0, 1, 2]) none)
def ct_Lending_queueLength : Nat → Option (List Nat) := fun pc => (cond (Nat.beq pc 4) (some [0, 1, 2, 3]) none)
def ct_Catalog_setGone : Nat → Option (List Nat) := fun pc => none
def ct_Authority_setBroader : Nat → Option (List Nat) := fun pc => none
def ct_Authority_has : Nat → Option (List Nat) := fun pc => none
def ct_Authority_isUnder : Nat → Option (List Nat) := fun pc => (cond (Nat.beq pc 5) (some [0, 2, 3, 4]) none)
def ct_C_linkField : Nat → Option (List Nat) := fun pc => none
def ct_Catalog_copyTo : Nat → Option (List Nat) := fun pc => (cond (Nat.beq pc 12) (some [0, 1, 2, 3]) none)
def ct_Authority_linkedHeading : Nat → Option (List Nat) := fun pc => (cond (Nat.beq pc 7) (some [0, 1, 2, 3]) none)
def ct_Draft_slotOf : Nat → Option (List Nat) := fun pc => (cond (Nat.beq pc 8) (some [0, 1, 2, 3, 4]) none)
def ct_Authority_addLink : Nat → Option (List Nat) := fun pc => none
def ct_Readers_addReader : Nat → Option (List Nat) := fun pc => none
def ct_Lending_addCopy : Nat → Option (List Nat) := fun pc => none
def ct_Lending_putAway : Nat → Option (List Nat) := fun pc => none
def ct_Lending_has : Nat → Option (List Nat) := fun pc => none
def ct_RuleBook_closeDay : Nat → Option (List Nat) := fun pc => none
def ct_RuleBook_isClosed : Nat → Option (List Nat) := fun pc => none
def ct_RuleBook_closedBetween : Nat → Option (List Nat) := fun pc => (cond (Nat.beq pc 5) (some [0, 1, 2, 3, 4]) none)
def ct_Lending_lendTo : Nat → Option (List Nat) := fun pc => none
def ct_Readers_has : Nat → Option (List Nat) := fun pc => none
def ct_Readers_isBookedByOther : Nat → Option (List Nat) := fun pc => (cond (Nat.beq pc 3) (some [0, 1, 2, 3, 4]) none)
def ct_Readers_isOver : Nat → Option (List Nat) := fun pc => none
def ct_RuleBook_ruleFor : Nat → Option (List Nat) := fun pc => (cond (Nat.beq pc 2) (some [0, 1, 2, 3]) none)
def ct_Readers_openLoans : Nat → Option (List Nat) := fun pc => (cond (Nat.beq pc 4) (some [0, 1, 2, 3]) none)
def ct_Readers_isBarred : Nat → Option (List Nat) := fun pc => none
def ct_Lending_dueDay : Nat → Option (List Nat) := fun pc => none
def ct_Readers_firstBookedByOther : Nat → Option (List Nat) := fun pc => (cond (Nat.beq pc 7) (some [0, 1, 2, 3, 4, 5]) none)
def ct_RuleBook_openDay : Nat → Option (List Nat) := fun pc => (cond (Nat.beq pc 4) (some [0, 2, 3]) none)
def ct_Readers_addLoan : Nat → Option (List Nat) := fun pc => none
def ct_Lending_setFine : Nat → Option (List Nat) := fun pc => none
def ct_Lending_renewLoan : Nat → Option (List Nat) := fun pc => none
def ct_Lending_tellPlace : Nat → Option (List Nat) := fun pc => none
def ct_Lending_takeBack : Nat → Option (List Nat) := fun pc => none
def ct_Lending_isPlace : Nat → Option (List Nat) := fun pc => none
def ct_Lending_fineOf : Nat → Option (List Nat) := fun pc => none
def ct_Lending_enterQueue : Nat → Option (List Nat) := fun pc => (cond (Nat.beq pc 93) (some [0, 2, 4, 5]) none)
def ct_Lending_queuedAt : Nat → Option (List Nat) := fun pc => (cond (Nat.beq pc 2) (some [0, 1, 2, 3]) none)
def ct_Lending_copyFor : Nat → Option (List Nat) := fun pc => (cond (Nat.beq pc 3) (some [0, 1, 2, 3, 4]) none)
def ct_Lending_insertQueued : Nat → Option (List Nat) := fun pc => (cond (Nat.beq pc 6) (some [0, 1, 2, 3, 4]) (cond (Nat.beq pc 118) (some [0, 2, 4, 5, 6]) none))
def ct_Lending_leaveQueue : Nat → Option (List Nat) := fun pc => none
def ct_Readers_takeMoney : Nat → Option (List Nat) := fun pc => none
def ct_Buying_receive : Nat → Option (List Nat) := fun pc => none
def ct_Buying_hasIssue : Nat → Option (List Nat) := fun pc => none
def ct_Buying_addFund : Nat → Option (List Nat) := fun pc => none
def ct_Buying_addOrder : Nat → Option (List Nat) := fun pc => none
def ct_Buying_hasFund : Nat → Option (List Nat) := fun pc => none
def ct_Buying_freeCents : Nat → Option (List Nat) := fun pc => none
def ct_Buying_chargeOrder : Nat → Option (List Nat) := fun pc => none
def ct_Buying_cancelOrder : Nat → Option (List Nat) := fun pc => none
def ct_Buying_moveMoney : Nat → Option (List Nat) := fun pc => none
def ct_Stores_setAnswering : Nat → Option (List Nat) := fun pc => none
def ct_Stores_alterByte : Nat → Option (List Nat) := fun pc => none
def ct_Stores_hasCopy : Nat → Option (List Nat) := fun pc => none
def ct_Stores_has : Nat → Option (List Nat) := fun pc => none
def ct_Stores_startOf : Nat → Option (List Nat) := fun pc => none
def ct_Stores_loseCopy : Nat → Option (List Nat) := fun pc => none
def ct_Stores_mendPackage : Nat → Option (List Nat) := fun pc => (cond (Nat.beq pc 29) (some [0, 1, 2, 3, 4]) (cond (Nat.beq pc 88) (some [0, 1, 2, 3, 4, 5]) none))
def ct_Stores_majorityStore : Nat → Option (List Nat) := fun pc => (cond (Nat.beq pc 2) (some [0, 1, 2]) (cond (Nat.beq pc 16) (some [0, 1, 2, 3, 4, 5]) none))
def ct_Stores_isHeard : Nat → Option (List Nat) := fun pc => none
def ct_Stores_isSameOn : Nat → Option (List Nat) := fun pc => (cond (Nat.beq pc 17) (some [0, 1, 4, 5, 6]) none)
def ct_Stores_copyBytes : Nat → Option (List Nat) := fun pc => none
def ct_Stores_nextStore : Nat → Option (List Nat) := fun pc => (cond (Nat.beq pc 4) (some [0, 1, 2, 3]) none)
def ct_Stores_copiesOn : Nat → Option (List Nat) := fun pc => (cond (Nat.beq pc 4) (some [0, 1, 2, 3]) none)
def ct_Stores_copiesOf : Nat → Option (List Nat) := fun pc => (cond (Nat.beq pc 4) (some [0, 1, 2, 3]) none)
def ct_Lending_setHome : Nat → Option (List Nat) := fun pc => none
def ct_Readers_setPickup : Nat → Option (List Nat) := fun pc => none
def ct_Lending_bookCopy : Nat → Option (List Nat) := fun pc => none
def ct_Readers_isBookedBetween : Nat → Option (List Nat) := fun pc => (cond (Nat.beq pc 3) (some [0, 1, 2, 3, 4, 5]) none)
def ct_Readers_addBooking : Nat → Option (List Nat) := fun pc => none
def ct_Readers_takeBookingBack : Nat → Option (List Nat) := fun pc => none
def ct_RuleBook_setStrict : Nat → Option (List Nat) := fun pc => none
def ct_Catalog_setFrozen : Nat → Option (List Nat) := fun pc => none
def ct_C_disposeAll : Nat → Option (List Nat) := fun pc => (cond (Nat.beq pc 4) (some [0, 1, 2]) none)
def ct_C_mayDispose : Nat → Option (List Nat) := fun pc => none
def ct_Lending_isInUse : Nat → Option (List Nat) := fun pc => (cond (Nat.beq pc 16) (some [0, 1, 2, 3]) none)
def ct_C_layPrint : Nat → Option (List Nat) := fun pc => none
def ct_Authority_layNames : Nat → Option (List Nat) := fun pc => (cond (Nat.beq pc 3) (some [0, 1, 2, 3, 4]) (cond (Nat.beq pc 76) (some [0, 1, 3, 4]) none))
def ct_Authority_nameOn : Nat → Option (List Nat) := fun pc => (cond (Nat.beq pc 10) (some [0, 2, 3, 4]) none)
def ct_RuleBook_daysToKeep : Nat → Option (List Nat) := fun pc => (cond (Nat.beq pc 2) (some [0, 1, 2]) (cond (Nat.beq pc 23) (some [0, 1, 2, 3, 4]) none))
def ct_Tape_isSameRow : Nat → Option (List Nat) := fun pc => none
def ct_Tape_compareRows : Nat → Option (List Nat) := fun pc => (cond (Nat.beq pc 26) (some [0, 3, 4, 5, 6, 7]) none)
def ct_Lending_putAllAway : Nat → Option (List Nat) := fun pc => (cond (Nat.beq pc 2) (some [0, 1, 2]) none)
def ct_C_addRecord : Nat → Option (List Nat) := fun pc => none
def ct_C_readNewVersion : Nat → Option (List Nat) := fun pc => none
def ct_Draft_readRecord : Nat → Option (List Nat) := fun pc => (cond (Nat.beq pc 7) (some [0, 1, 2]) none)
def ct_Tape_peek : Nat → Option (List Nat) := fun pc => none
def ct_Draft_readField : Nat → Option (List Nat) := fun pc => (cond (Nat.beq pc 73) (some [0, 1, 3, 4, 5]) none)
def ct_Tape_takeTag : Nat → Option (List Nat) := fun pc => (cond (Nat.beq pc 7) (some [0, 1, 2, 3]) none)
def ct_Tape_takeByte : Nat → Option (List Nat) := fun pc => none
def ct_Tape_takeIndicator : Nat → Option (List Nat) := fun pc => none
def ct_Draft_addField : Nat → Option (List Nat) := fun pc => none
def ct_Tape_takeRow : Nat → Option (List Nat) := fun pc => (cond (Nat.beq pc 5) (some [0, 1]) none)
def ct_Draft_addSubfield : Nat → Option (List Nat) := fun pc => none
def ct_Tape_takeCode : Nat → Option (List Nat) := fun pc => none
def ct_Tape_takeEnd : Nat → Option (List Nat) := fun pc => none
def ct_Tape_isRight : Nat → Option (List Nat) := fun pc => none
def ct_Tape_refusal : Nat → Option (List Nat) := fun pc => none
def ct_RuleBook_isAnyBroken : Nat → Option (List Nat) := fun pc => (cond (Nat.beq pc 4) (some [0, 1, 2, 3]) none)
def ct_RuleBook_isBroken : Nat → Option (List Nat) := fun pc => (cond (Nat.beq pc 41) (some [0, 2, 3, 4, 5, 6, 7, 8]) none)
def ct_Draft_longestRow : Nat → Option (List Nat) := fun pc => (cond (Nat.beq pc 4) (some [0, 1, 2, 3]) none)
def ct_Catalog_addRecord : Nat → Option (List Nat) := fun pc => none
def ct_Catalog_addVersion : Nat → Option (List Nat) := fun pc => (cond (Nat.beq pc 66) (some [0, 2, 4, 5]) none)
def ct_C_editRecord : Nat → Option (List Nat) := fun pc => none
def ct_Catalog_versionsOf : Nat → Option (List Nat) := fun pc => (cond (Nat.beq pc 9) (some [0, 2, 3]) none)
def ct_Authority_addHeading : Nat → Option (List Nat) := fun pc => none
def ct_Authority_isNamed : Nat → Option (List Nat) := fun pc => (cond (Nat.beq pc 2) (some [0, 1, 2, 3]) none)
def ct_Authority_addName : Nat → Option (List Nat) := fun pc => none
def ct_Authority_renameHeading : Nat → Option (List Nat) := fun pc => none
def ct_RuleBook_readLines : Nat → Option (List Nat) := fun pc => (cond (Nat.beq pc 16) (some [0, 1, 2, 3]) none)
def ct_RuleBook_readLoanLine : Nat → Option (List Nat) := fun pc => none
def ct_RuleBook_readSort : Nat → Option (List Nat) := fun pc => none
def ct_Tape_takeBetween : Nat → Option (List Nat) := fun pc => none
def ct_Tape_takeNumber : Nat → Option (List Nat) := fun pc => (cond (Nat.beq pc 8) (some [0, 1, 2, 3, 4]) none)
def ct_RuleBook_readRouteLine : Nat → Option (List Nat) := fun pc => none
def ct_RuleBook_readWeekdays : Nat → Option (List Nat) := fun pc => (cond (Nat.beq pc 7) (some [0, 1, 2, 3]) none)
def ct_C_isDigit : Nat → Option (List Nat) := fun pc => none
def ct_Tape_stopHere : Nat → Option (List Nat) := fun pc => none
def ct_RuleBook_readCheckLine : Nat → Option (List Nat) := fun pc => none
def ct_Tape_takeWord : Nat → Option (List Nat) := fun pc => (cond (Nat.beq pc 13) (some [0, 1, 2, 3, 4, 5, 6]) none)
def ct_String_length : Nat → Option (List Nat) := fun pc => none
def ct_String_coder : Nat → Option (List Nat) := fun pc => none
def ct_String_charAt : Nat → Option (List Nat) := fun pc => none
def ct_String_isLatin1 : Nat → Option (List Nat) := fun pc => none
def ct_StringLatin1_charAt : Nat → Option (List Nat) := fun pc => none
def ct_String_checkIndex : Nat → Option (List Nat) := fun pc => none
def ct_Preconditions_checkIndex : Nat → Option (List Nat) := fun pc => none
def ct_StringUTF16_charAt : Nat → Option (List Nat) := fun pc => none
def ct_StringUTF16_checkIndex : Nat → Option (List Nat) := fun pc => none
def ct_StringUTF16_length : Nat → Option (List Nat) := fun pc => none
def ct_StringUTF16_getChar : Nat → Option (List Nat) := fun pc => none
def ct_RuleBook_readKeepLine : Nat → Option (List Nat) := fun pc => none
def ct_RuleBook_readStep : Nat → Option (List Nat) := fun pc => none
def ct_Buying_addSerial : Nat → Option (List Nat) := fun pc => none
def ct_Buying_readMonths : Nat → Option (List Nat) := fun pc => (cond (Nat.beq pc 6) (some [0, 1, 2, 3]) none)
def ct_Buying_foretell : Nat → Option (List Nat) := fun pc => (cond (Nat.beq pc 6) (some [0, 1, 2, 4, 5]) none)
def ct_Stores_addPackage : Nat → Option (List Nat) := fun pc => (cond (Nat.beq pc 30) (some [0, 1, 2, 3, 4]) (cond (Nat.beq pc 104) (some [0, 1, 2, 4]) (cond (Nat.beq pc 136) (some [0, 1, 2, 4]) none)))
def ct_Lending_setMark : Nat → Option (List Nat) := fun pc => none
def ct_Lending_readTail : Nat → Option (List Nat) := fun pc => (cond (Nat.beq pc 9) (some [0, 1, 2, 3, 4, 6, 7]) none)
def ct_C_runBatch : Nat → Option (List Nat) := fun pc => (cond (Nat.beq pc 39) (some [0, 2, 3]) none)
def ct_Question_readQuestion : Nat → Option (List Nat) := fun pc => (cond (Nat.beq pc 26) (some [0, 1, 2, 3]) none)
def ct_Question_openBrackets : Nat → Option (List Nat) := fun pc => (cond (Nat.beq pc 2) (some [0, 2]) none)
def ct_Question_pushWaiting : Nat → Option (List Nat) := fun pc => none
def ct_Question_readTerm : Nat → Option (List Nat) := fun pc => none
def ct_Question_readWords : Nat → Option (List Nat) := fun pc => (cond (Nat.beq pc 101) (some [0, 1]) none)
def ct_Tape_takeSmallWord : Nat → Option (List Nat) := fun pc => (cond (Nat.beq pc 5) (some [0, 1]) none)
def ct_Question_addWord : Nat → Option (List Nat) := fun pc => none
def ct_Question_addToProgram : Nat → Option (List Nat) := fun pc => none
def ct_Question_closeBrackets : Nat → Option (List Nat) := fun pc => (cond (Nat.beq pc 2) (some [0, 2]) none)
def ct_Question_settleWaiting : Nat → Option (List Nat) := fun pc => (cond (Nat.beq pc 0) (some [0, 1]) none)
def ct_Question_readJoint : Nat → Option (List Nat) := fun pc => none
def ct_C_searchAll : Nat → Option (List Nat) := fun pc => (cond (Nat.beq pc 18) (some [0, 1]) none)
def ct_Question_splitWords : Nat → Option (List Nat) := fun pc => (cond (Nat.beq pc 7) (some [0, 1, 2]) (cond (Nat.beq pc 17) (some [0, 1, 2, 3]) none))
def ct_Question_splitRow : Nat → Option (List Nat) := fun pc => (cond (Nat.beq pc 17) (some [0, 2, 3, 4, 5, 6]) none)
def ct_C_isLetter : Nat → Option (List Nat) := fun pc => none
def ct_Question_isMet : Nat → Option (List Nat) := fun pc => (cond (Nat.beq pc 4) (some [0, 1, 2, 3]) none)
def ct_Question_isTermMet : Nat → Option (List Nat) := fun pc => (cond (Nat.beq pc 12) (some [0, 1, 2, 3]) (cond (Nat.beq pc 54) (some [0, 1, 2, 3]) none))
def ct_Question_isTold : Nat → Option (List Nat) := fun pc => none
def ct_Question_isPhraseAt : Nat → Option (List Nat) := fun pc => (cond (Nat.beq pc 2) (some [0, 1, 2, 3]) (cond (Nat.beq pc 104) (some [0, 1, 2, 3, 4, 5, 6, 8, 9]) none))
def ct_Desk_fileRecord : Nat → Option (List Nat) := fun pc => (cond (Nat.beq pc 24) (some [0, 1, 2, 3, 4, 5]) (cond (Nat.beq pc 133) (some [0, 1, 3, 4, 5]) none))
def ct_Desk_compareTitles : Nat → Option (List Nat) := fun pc => (cond (Nat.beq pc 44) (some [0, 2, 4, 5, 6, 7, 8]) none)
def ct_Desk_endOf : Nat → Option (List Nat) := fun pc => (cond (Nat.beq pc 6) (some [0, 1, 3, 4, 5]) none)
def ct_Desk_compareElements : Nat → Option (List Nat) := fun pc => (cond (Nat.beq pc 32) (some [2, 4, 5, 6, 7, 8]) (cond (Nat.beq pc 59) (some [2, 4, 5, 6, 7, 8]) (cond (Nat.beq pc 121) (some [5, 6, 7, 9, 10, 11]) none)))
def ct_C_changeRecord : Nat → Option (List Nat) := fun pc => (cond (Nat.beq pc 24) (some [0, 1, 2, 3]) none)
def ct_RuleBook_applyStep : Nat → Option (List Nat) := fun pc => none
def ct_Draft_removeFields : Nat → Option (List Nat) := fun pc => (cond (Nat.beq pc 4) (some [0, 1, 2, 3]) none)
def ct_Draft_copyField : Nat → Option (List Nat) := fun pc => none
def ct_Draft_setRows : Nat → Option (List Nat) := fun pc => (cond (Nat.beq pc 3) (some [0, 1, 2, 3, 4]) none)
def ct_Draft_appendField : Nat → Option (List Nat) := fun pc => none
def ct_Draft_hasRightSize : Nat → Option (List Nat) := fun pc => (cond (Nat.beq pc 25) (some [0, 1, 2]) none)
def ct_Catalog_isSame : Nat → Option (List Nat) := fun pc => (cond (Nat.beq pc 23) (some [0, 1, 2, 3, 4, 5]) (cond (Nat.beq pc 124) (some [0, 1, 2, 3, 4, 5, 6, 7]) none))
def ct_C_runMessage : Nat → Option (List Nat) := fun pc => none
def ct_Tape_takeNextNumber : Nat → Option (List Nat) := fun pc => none
def ct_Tape_wholeText : Nat → Option (List Nat) := fun pc => none
def ct_C_record : Nat → Option (List Nat) := fun pc => none
def ct_C_edit : Nat → Option (List Nat) := fun pc => none
def ct_C_drop : Nat → Option (List Nat) := fun pc => none
def ct_C_print : Nat → Option (List Nat) := fun pc => none
def ct_Catalog_versionOn : Nat → Option (List Nat) := fun pc => (cond (Nat.beq pc 47) (some [0, 2, 3, 4]) none)
def ct_Desk_writeText : Nat → Option (List Nat) := fun pc => (cond (Nat.beq pc 2) (some [0, 1, 2]) none)
def ct_Desk_writeNumber : Nat → Option (List Nat) := fun pc => (cond (Nat.beq pc 5) (some [0, 1, 2, 3, 4]) (cond (Nat.beq pc 25) (some [0, 1, 2, 3, 4]) none))
def ct_Desk_write : Nat → Option (List Nat) := fun pc => none
def ct_Desk_writeField : Nat → Option (List Nat) := fun pc => (cond (Nat.beq pc 46) (some [0, 1, 2, 3, 4, 5]) (cond (Nat.beq pc 99) (some [0, 1, 2, 3, 4, 5, 7, 8]) none))
def ct_Desk_writeExchange : Nat → Option (List Nat) := fun pc => (cond (Nat.beq pc 16) (some [0, 1, 2, 3, 4]) (cond (Nat.beq pc 62) (some [0, 1, 4, 5]) (cond (Nat.beq pc 127) (some [0, 1, 5]) none)))
def ct_Draft_exchangeBytes : Nat → Option (List Nat) := fun pc => (cond (Nat.beq pc 30) (some [0, 1, 2, 3, 4]) none)
def ct_C_printed : Nat → Option (List Nat) := fun pc => none
def ct_C_heading : Nat → Option (List Nat) := fun pc => none
def ct_C_rename : Nat → Option (List Nat) := fun pc => none
def ct_C_broader : Nat → Option (List Nat) := fun pc => none
def ct_C_link : Nat → Option (List Nat) := fun pc => none
def ct_C_find : Nat → Option (List Nat) := fun pc => none
def ct_C_hit : Nat → Option (List Nat) := fun pc => none
def ct_C_value : Nat → Option (List Nat) := fun pc => (cond (Nat.beq pc 11) (some [0, 1, 2, 3, 4]) none)
def ct_Desk_addValues : Nat → Option (List Nat) := fun pc => (cond (Nat.beq pc 3) (some [0, 1, 2, 3, 4]) none)
def ct_Desk_addValue : Nat → Option (List Nat) := fun pc => (cond (Nat.beq pc 2) (some [0, 1, 2, 3]) none)
def ct_Desk_valueOfRank : Nat → Option (List Nat) := fun pc => (cond (Nat.beq pc 2) (some [0, 1, 2]) (cond (Nat.beq pc 15) (some [0, 1, 2, 3, 4]) none))
def ct_Tape_rowByte : Nat → Option (List Nat) := fun pc => none
def ct_C_reader : Nat → Option (List Nat) := fun pc => none
def ct_C_copy : Nat → Option (List Nat) := fun pc => none
def ct_C_away : Nat → Option (List Nat) := fun pc => none
def ct_C_rules : Nat → Option (List Nat) := fun pc => none
def ct_C_closed : Nat → Option (List Nat) := fun pc => none
def ct_C_lend : Nat → Option (List Nat) := fun pc => none
def ct_C_renew : Nat → Option (List Nat) := fun pc => none
def ct_C_back : Nat → Option (List Nat) := fun pc => none
def ct_C_hold : Nat → Option (List Nat) := fun pc => none
def ct_C_unhold : Nat → Option (List Nat) := fun pc => none
def ct_C_pay : Nat → Option (List Nat) := fun pc => none
def ct_C_state : Nat → Option (List Nat) := fun pc => none
def ct_Lending_tellState : Nat → Option (List Nat) := fun pc => none
def ct_C_queue : Nat → Option (List Nat) := fun pc => none
def ct_Lending_queuedReader : Nat → Option (List Nat) := fun pc => (cond (Nat.beq pc 5) (some [0, 1, 2, 3, 4]) none)
def ct_C_owes : Nat → Option (List Nat) := fun pc => none
def ct_C_serial : Nat → Option (List Nat) := fun pc => none
def ct_C_issue : Nat → Option (List Nat) := fun pc => none
def ct_Buying_tellIssue : Nat → Option (List Nat) := fun pc => none
def ct_C_came : Nat → Option (List Nat) := fun pc => none
def ct_C_claim : Nat → Option (List Nat) := fun pc => none
def ct_Buying_claimOfRank : Nat → Option (List Nat) := fun pc => (cond (Nat.beq pc 10) (some [0, 1, 2, 3]) (cond (Nat.beq pc 23) (some [0, 1, 2, 3, 4, 5]) none))
def ct_Buying_goToClaim : Nat → Option (List Nat) := fun pc => (cond (Nat.beq pc 7) (some [0, 1, 2, 3]) none)
def ct_C_fund : Nat → Option (List Nat) := fun pc => none
def ct_C_order : Nat → Option (List Nat) := fun pc => none
def ct_C_invoice : Nat → Option (List Nat) := fun pc => none
def ct_C_cancel : Nat → Option (List Nat) := fun pc => none
def ct_C_transfer : Nat → Option (List Nat) := fun pc => none
def ct_C_money : Nat → Option (List Nat) := fun pc => none
def ct_Buying_tellMoney : Nat → Option (List Nat) := fun pc => none
def ct_C_pack : Nat → Option (List Nat) := fun pc => none
def ct_C_answers : Nat → Option (List Nat) := fun pc => none
def ct_C_alter : Nat → Option (List Nat) := fun pc => none
def ct_C_lose : Nat → Option (List Nat) := fun pc => none
def ct_C_mend : Nat → Option (List Nat) := fun pc => none
def ct_C_octet : Nat → Option (List Nat) := fun pc => none
def ct_Stores_octetOf : Nat → Option (List Nat) := fun pc => none
def ct_C_load : Nat → Option (List Nat) := fun pc => none
def ct_C_harvest : Nat → Option (List Nat) := fun pc => none
def ct_Desk_openToken : Nat → Option (List Nat) := fun pc => (cond (Nat.beq pc 2) (some [0, 1, 2, 3]) none)
def ct_C_next : Nat → Option (List Nat) := fun pc => none
def ct_Desk_nextChanged : Nat → Option (List Nat) := fun pc => (cond (Nat.beq pc 27) (some [0, 1, 2, 3, 4]) none)
def ct_C_sync : Nat → Option (List Nat) := fun pc => none
def ct_C_power : Nat → Option (List Nat) := fun pc => none
def ct_C_rewind : Nat → Option (List Nat) := fun pc => (cond (Nat.beq pc 6) (some [0, 1, 2]) none)
def ct_C_restart : Nat → Option (List Nat) := fun pc => none
def ct_Catalog_restart : Nat → Option (List Nat) := fun pc => none
def ct_Authority_restart : Nat → Option (List Nat) := fun pc => none
def ct_RuleBook_restart : Nat → Option (List Nat) := fun pc => none
def ct_Readers_restart : Nat → Option (List Nat) := fun pc => none
def ct_Lending_restart : Nat → Option (List Nat) := fun pc => none
def ct_Buying_restart : Nat → Option (List Nat) := fun pc => none
def ct_Stores_restart : Nat → Option (List Nat) := fun pc => (cond (Nat.beq pc 7) (some [0, 1]) none)
def ct_Desk_restart : Nat → Option (List Nat) := fun pc => (cond (Nat.beq pc 17) (some [0, 1]) none)
def ct_C_count : Nat → Option (List Nat) := fun pc => none
def ct_C_broken : Nat → Option (List Nat) := fun pc => none
def ct_Lending_wronglyLent : Nat → Option (List Nat) := fun pc => (cond (Nat.beq pc 4) (some [0, 1, 2]) none)
def ct_Readers_openLoansOf : Nat → Option (List Nat) := fun pc => (cond (Nat.beq pc 4) (some [0, 1, 2, 3]) none)
def ct_Lending_wronglyIn : Nat → Option (List Nat) := fun pc => (cond (Nat.beq pc 4) (some [0, 1, 2]) none)
def ct_Buying_overspentFunds : Nat → Option (List Nat) := fun pc => (cond (Nat.beq pc 4) (some [0, 1, 2]) none)
def ct_Authority_ringedHeadings : Nat → Option (List Nat) := fun pc => (cond (Nat.beq pc 4) (some [0, 1, 2]) none)
def ct_Lending_wronglyQueued : Nat → Option (List Nat) := fun pc => (cond (Nat.beq pc 4) (some [0, 1, 2]) (cond (Nat.beq pc 20) (some [0, 1, 2, 3, 4]) none))
def ct_C_home : Nat → Option (List Nat) := fun pc => none
def ct_C_pickup : Nat → Option (List Nat) := fun pc => none
def ct_C_routes : Nat → Option (List Nat) := fun pc => none
def ct_C_bring : Nat → Option (List Nat) := fun pc => none
def ct_C_where : Nat → Option (List Nat) := fun pc => none
def ct_C_book : Nat → Option (List Nat) := fun pc => none
def ct_C_unbook : Nat → Option (List Nat) := fun pc => none
def ct_C_mark : Nat → Option (List Nat) := fun pc => none
def ct_C_shelf : Nat → Option (List Nat) := fun pc => none
def ct_Lending_shelved : Nat → Option (List Nat) := fun pc => (cond (Nat.beq pc 2) (some [0, 1, 2, 3]) none)
def ct_Lending_isInAt : Nat → Option (List Nat) := fun pc => none
def ct_Lending_shelvedAhead : Nat → Option (List Nat) := fun pc => (cond (Nat.beq pc 5) (some [0, 1, 2, 3, 4]) none)
def ct_C_checks : Nat → Option (List Nat) := fun pc => none
def ct_C_strict : Nat → Option (List Nat) := fun pc => none
def ct_C_broke : Nat → Option (List Nat) := fun pc => (cond (Nat.beq pc 42) (some [0, 2, 3, 4]) none)
def ct_C_batch : Nat → Option (List Nat) := fun pc => none
def ct_C_result : Nat → Option (List Nat) := fun pc => none
def ct_C_retention : Nat → Option (List Nat) := fun pc => none
def ct_C_freeze : Nat → Option (List Nat) := fun pc => none
def ct_C_due : Nat → Option (List Nat) := fun pc => (cond (Nat.beq pc 4) (some [0, 1, 2, 3]) none)
def ct_C_dispose : Nat → Option (List Nat) := fun pc => none
def ct_C_exchange : Nat → Option (List Nat) := fun pc => none
def ct_C_deed : Nat → Option (List Nat) := fun pc => none
def ct_C_done : Nat → Option (List Nat) := fun pc => none
def ct_C_tally : Nat → Option (List Nat) := fun pc => none
def ct_Lending_copiesUnderWay : Nat → Option (List Nat) := fun pc => (cond (Nat.beq pc 4) (some [0, 1, 2]) none)
def ct_R_init : Nat → Option (List Nat) := fun pc => none
def ct_R_feed : Nat → Option (List Nat) := fun pc => none
def ct_R_put : Nat → Option (List Nat) := fun pc => (cond (Nat.beq pc 3) (some [0, 1, 2]) none)
def ct_R_end : Nat → Option (List Nat) := fun pc => none
def ct_R_sync : Nat → Option (List Nat) := fun pc => none
def ct_R_power : Nat → Option (List Nat) := fun pc => none
def ct_R_in : Nat → Option (List Nat) := fun pc => none
def ct_R_again : Nat → Option (List Nat) := fun pc => (cond (Nat.beq pc 8) (some [0, 1, 2, 3]) (cond (Nat.beq pc 36) (some [0, 1, 2, 3, 4, 5]) none))
def ct_R_forget : Nat → Option (List Nat) := fun pc => (cond (Nat.beq pc 87) (some [0, 1]) none)
def ct_R_repeats : Nat → Option (List Nat) := fun pc => (cond (Nat.beq pc 12) (some [0, 1, 2, 3]) (cond (Nat.beq pc 40) (some [0, 1, 2, 3, 4]) none))
def ct_R_batchText : Nat → Option (List Nat) := fun pc => (cond (Nat.beq pc 21) (some [0, 1]) none)
def ct_R_question : Nat → Option (List Nat) := fun pc => (cond (Nat.beq pc 22) (some [0, 1, 2, 3, 4]) none)
def ct_R_at : Nat → Option (List Nat) := fun pc => none
def ct_R_term : Nat → Option (List Nat) := fun pc => none
def ct_R_numeral : Nat → Option (List Nat) := fun pc => (cond (Nat.beq pc 6) (some [0, 1, 2, 3, 4, 5]) none)
def ct_R_isDigit : Nat → Option (List Nat) := fun pc => none
def ct_R_phrase : Nat → Option (List Nat) := fun pc => (cond (Nat.beq pc 5) (some [0, 1, 3, 4]) none)
def ct_R_word : Nat → Option (List Nat) := fun pc => (cond (Nat.beq pc 2) (some [0, 1, 2, 3]) none)
def ct_R_isSmall : Nat → Option (List Nat) := fun pc => none
def ct_R_close : Nat → Option (List Nat) := fun pc => (cond (Nat.beq pc 0) (some [0]) none)
def ct_R_literal : Nat → Option (List Nat) := fun pc => (cond (Nat.beq pc 2) (some [0, 1, 2, 3]) none)
def ct_R_operator : Nat → Option (List Nat) := fun pc => (cond (Nat.beq pc 0) (some [0, 1]) none)
def ct_R_stepText : Nat → Option (List Nat) := fun pc => none
def ct_R_fieldText : Nat → Option (List Nat) := fun pc => (cond (Nat.beq pc 4) (some [0, 1, 2, 3]) (cond (Nat.beq pc 98) (some [0, 3, 4]) none))
def ct_R_row : Nat → Option (List Nat) := fun pc => (cond (Nat.beq pc 2) (some [0, 1, 2]) none)
def ct_R_isRowByte : Nat → Option (List Nat) := fun pc => none
def ct_R_subfields : Nat → Option (List Nat) := fun pc => (cond (Nat.beq pc 4) (some [0, 2, 3]) none)
def ct_R_tagText : Nat → Option (List Nat) := fun pc => (cond (Nat.beq pc 5) (some [0, 1, 2, 3, 4]) none)
def ct_R_versionOn : Nat → Option (List Nat) := fun pc => (cond (Nat.beq pc 7) (some [0, 1, 2, 3]) none)
def ct_R_takeVersion : Nat → Option (List Nat) := fun pc => (cond (Nat.beq pc 12) (some [0, 1, 2]) none)
def ct_R_doMove : Nat → Option (List Nat) := fun pc => (cond (Nat.beq pc 4) (some [0, 1, 2, 3]) none)
def ct_R_fieldEnd : Nat → Option (List Nat) := fun pc => (cond (Nat.beq pc 2) (some [0, 2]) none)
def ct_R_tagAt : Nat → Option (List Nat) := fun pc => none
def ct_R_putBytes : Nat → Option (List Nat) := fun pc => (cond (Nat.beq pc 3) (some [0, 1, 2, 3, 4, 5]) none)
def ct_R_firstCode : Nat → Option (List Nat) := fun pc => (cond (Nat.beq pc 20) (some [0, 2, 3, 4]) none)
def ct_R_rowEnd : Nat → Option (List Nat) := fun pc => (cond (Nat.beq pc 2) (some [0, 2, 3]) none)
def ct_R_addVersion : Nat → Option (List Nat) := fun pc => (cond (Nat.beq pc 0) (some [0, 1, 2, 3]) (cond (Nat.beq pc 28) (some [0, 1, 2, 3, 4, 5]) (cond (Nat.beq pc 67) (some [0, 1, 2, 3, 4]) none)))
def ct_R_perform : Nat → Option (List Nat) := fun pc => none
def ct_R_doTick : Nat → Option (List Nat) := fun pc => (cond (Nat.beq pc 45) (some [0, 2, 3]) none)
def ct_R_refuse : Nat → Option (List Nat) := fun pc => none
def ct_R_arrivals : Nat → Option (List Nat) := fun pc => (cond (Nat.beq pc 6) (some [0, 1, 2, 3]) (cond (Nat.beq pc 54) (some [0, 1, 2]) (cond (Nat.beq pc 63) (some [0, 1, 3, 4]) none)))
def ct_R_shelve : Nat → Option (List Nat) := fun pc => none
def ct_R_sendOff : Nat → Option (List Nat) := fun pc => none
def ct_R_arrival : Nat → Option (List Nat) := fun pc => (cond (Nat.beq pc 2) (some [0, 1, 2, 3]) (cond (Nat.beq pc 34) (some [0, 2, 3]) (cond (Nat.beq pc 43) (some [0, 2, 3, 4]) none)))
def ct_R_goes : Nat → Option (List Nat) := fun pc => (cond (Nat.beq pc 2) (some [0, 1, 3]) none)
def ct_R_settle : Nat → Option (List Nat) := fun pc => none
def ct_R_inQueue : Nat → Option (List Nat) := fun pc => (cond (Nat.beq pc 5) (some [0, 1, 2, 3, 4]) none)
def ct_R_ahead : Nat → Option (List Nat) := fun pc => (cond (Nat.beq pc 4) (some [0, 1, 2, 3]) none)
def ct_R_comeIn : Nat → Option (List Nat) := fun pc => none
def ct_R_unqueue : Nat → Option (List Nat) := fun pc => (cond (Nat.beq pc 12) (some [0, 2]) none)
def ct_R_doRecord : Nat → Option (List Nat) := fun pc => none
def ct_R_recordText : Nat → Option (List Nat) := fun pc => (cond (Nat.beq pc 4) (some [0, 1, 2]) none)
def ct_R_wrong : Nat → Option (List Nat) := fun pc => none
def ct_R_firstBroken : Nat → Option (List Nat) := fun pc => (cond (Nat.beq pc 6) (some [0, 1, 2, 3, 4, 5]) none)
def ct_R_breaks : Nat → Option (List Nat) := fun pc => (cond (Nat.beq pc 21) (some [0, 1, 2, 3, 4, 5, 6, 7]) none)
def ct_R_longest : Nat → Option (List Nat) := fun pc => (cond (Nat.beq pc 24) (some [0, 2, 3, 4]) none)
def ct_R_doEdit : Nat → Option (List Nat) := fun pc => (cond (Nat.beq pc 95) (some [0, 1, 3, 4]) none)
def ct_R_isRecord : Nat → Option (List Nat) := fun pc => none
def ct_R_doDrop : Nat → Option (List Nat) := fun pc => (cond (Nat.beq pc 18) (some [0, 1, 2, 3]) (cond (Nat.beq pc 64) (some [0, 1, 2, 3]) (cond (Nat.beq pc 100) (some [0, 1, 2, 3]) none)))
def ct_R_doHeading : Nat → Option (List Nat) := fun pc => none
def ct_R_nameTextOnTape : Nat → Option (List Nat) := fun pc => none
def ct_R_isName : Nat → Option (List Nat) := fun pc => (cond (Nat.beq pc 4) (some [0, 1, 2]) (cond (Nat.beq pc 45) (some [0, 1, 2, 3, 4, 5]) none))
def ct_R_nameOn : Nat → Option (List Nat) := fun pc => (cond (Nat.beq pc 7) (some [0, 1, 2, 3]) none)
def ct_R_addName : Nat → Option (List Nat) := fun pc => (cond (Nat.beq pc 38) (some [0, 2]) none)
def ct_R_doRename : Nat → Option (List Nat) := fun pc => none
def ct_R_doBroader : Nat → Option (List Nat) := fun pc => (cond (Nat.beq pc 32) (some [0, 1, 2, 3]) none)
def ct_R_doLink : Nat → Option (List Nat) := fun pc => (cond (Nat.beq pc 49) (some [0, 1, 2, 3, 4, 5, 6, 7]) none)
def ct_R_firstA : Nat → Option (List Nat) := fun pc => (cond (Nat.beq pc 19) (some [0, 2, 3]) none)
def ct_R_linkedOn : Nat → Option (List Nat) := fun pc => (cond (Nat.beq pc 8) (some [0, 1, 2, 3, 4]) none)
def ct_R_doReader : Nat → Option (List Nat) := fun pc => none
def ct_R_doCopy : Nat → Option (List Nat) := fun pc => none
def ct_R_doAway : Nat → Option (List Nat) := fun pc => none
def ct_R_isCopy : Nat → Option (List Nat) := fun pc => none
def ct_R_doRules : Nat → Option (List Nat) := fun pc => (cond (Nat.beq pc 17) (some [0, 1, 2]) none)
def ct_R_rulesText : Nat → Option (List Nat) := fun pc => (cond (Nat.beq pc 4) (some [0, 1, 2]) none)
def ct_R_ruleText : Nat → Option (List Nat) := fun pc => (cond (Nat.beq pc 2) (some [0, 1, 2, 3]) (cond (Nat.beq pc 108) (some [0, 2, 3, 4]) none))
def ct_R_doClosed : Nat → Option (List Nat) := fun pc => none
def ct_R_isShut : Nat → Option (List Nat) := fun pc => (cond (Nat.beq pc 4) (some [0, 1, 2, 3]) none)
def ct_R_doLend : Nat → Option (List Nat) := fun pc => none
def ct_R_isReader : Nat → Option (List Nat) := fun pc => none
def ct_R_isBookedNow : Nat → Option (List Nat) := fun pc => (cond (Nat.beq pc 5) (some [0, 1, 2, 3, 4]) none)
def ct_R_isOver : Nat → Option (List Nat) := fun pc => none
def ct_R_ruleOf : Nat → Option (List Nat) := fun pc => (cond (Nat.beq pc 2) (some [0, 1, 2, 3]) none)
def ct_R_lentTo : Nat → Option (List Nat) := fun pc => (cond (Nat.beq pc 4) (some [0, 1, 2, 3]) none)
def ct_R_open : Nat → Option (List Nat) := fun pc => (cond (Nat.beq pc 2) (some [0, 2]) none)
def ct_R_dueBy : Nat → Option (List Nat) := fun pc => (cond (Nat.beq pc 6) (some [0, 1, 2, 4, 5]) none)
def ct_R_doRenew : Nat → Option (List Nat) := fun pc => none
def ct_R_doBack : Nat → Option (List Nat) := fun pc => (cond (Nat.beq pc 50) (some [0, 1, 2, 3, 4]) none)
def ct_R_doHold : Nat → Option (List Nat) := fun pc => (cond (Nat.beq pc 51) (some [0, 1, 2, 3, 4, 5, 6]) none)
def ct_R_waitsFor : Nat → Option (List Nat) := fun pc => (cond (Nat.beq pc 5) (some [0, 1, 2, 3, 4]) none)
def ct_R_hasCopy : Nat → Option (List Nat) := fun pc => (cond (Nat.beq pc 5) (some [0, 1, 2, 3, 4]) none)
def ct_R_doUnhold : Nat → Option (List Nat) := fun pc => (cond (Nat.beq pc 36) (some [0, 1, 2, 4]) none)
def ct_R_doPay : Nat → Option (List Nat) := fun pc => none
def ct_R_doSerial : Nat → Option (List Nat) := fun pc => (cond (Nat.beq pc 86) (some [0, 3, 4]) none)
def ct_R_patternText : Nat → Option (List Nat) := fun pc => none
def ct_R_months : Nat → Option (List Nat) := fun pc => (cond (Nat.beq pc 7) (some [0, 2, 3, 4]) none)
def ct_R_doCame : Nat → Option (List Nat) := fun pc => none
def ct_R_isIssue : Nat → Option (List Nat) := fun pc => none
def ct_R_performRest : Nat → Option (List Nat) := fun pc => none
def ct_R_doFund : Nat → Option (List Nat) := fun pc => none
def ct_R_doOrder : Nat → Option (List Nat) := fun pc => none
def ct_R_isFund : Nat → Option (List Nat) := fun pc => none
def ct_R_free : Nat → Option (List Nat) := fun pc => none
def ct_R_doInvoice : Nat → Option (List Nat) := fun pc => none
def ct_R_doCancel : Nat → Option (List Nat) := fun pc => none
def ct_R_doTransfer : Nat → Option (List Nat) := fun pc => none
def ct_R_doPack : Nat → Option (List Nat) := fun pc => (cond (Nat.beq pc 25) (some [0, 1, 2]) (cond (Nat.beq pc 107) (some [0, 2]) (cond (Nat.beq pc 136) (some [0, 2]) (cond (Nat.beq pc 168) (some [0, 2, 3, 4]) none))))
def ct_R_storeFor : Nat → Option (List Nat) := fun pc => (cond (Nat.beq pc 4) (some [0, 1, 2, 3]) none)
def ct_R_loadOf : Nat → Option (List Nat) := fun pc => (cond (Nat.beq pc 4) (some [0, 1, 2, 3]) none)
def ct_R_doAnswers : Nat → Option (List Nat) := fun pc => none
def ct_R_isStore : Nat → Option (List Nat) := fun pc => none
def ct_R_doAlter : Nat → Option (List Nat) := fun pc => none
def ct_R_hasPack : Nat → Option (List Nat) := fun pc => none
def ct_R_isPack : Nat → Option (List Nat) := fun pc => none
def ct_R_doLose : Nat → Option (List Nat) := fun pc => none
def ct_R_doMend : Nat → Option (List Nat) := fun pc => (cond (Nat.beq pc 37) (some [0, 1, 2, 3, 4]) (cond (Nat.beq pc 107) (some [0, 1, 2, 3, 4]) none))
def ct_R_majority : Nat → Option (List Nat) := fun pc => (cond (Nat.beq pc 4) (some [0, 1, 2, 3]) (cond (Nat.beq pc 49) (some [0, 1, 2, 3]) (cond (Nat.beq pc 87) (some [0, 1, 2, 3, 4, 5]) none)))
def ct_R_isAlike : Nat → Option (List Nat) := fun pc => (cond (Nat.beq pc 6) (some [0, 1, 2, 3, 4, 5]) none)
def ct_R_copyOctets : Nat → Option (List Nat) := fun pc => (cond (Nat.beq pc 3) (some [0, 1, 2, 3, 4]) none)
def ct_R_copiesOf : Nat → Option (List Nat) := fun pc => (cond (Nat.beq pc 4) (some [0, 1, 2, 3]) none)
def ct_R_doHome : Nat → Option (List Nat) := fun pc => none
def ct_R_isPlace : Nat → Option (List Nat) := fun pc => none
def ct_R_doPickup : Nat → Option (List Nat) := fun pc => none
def ct_R_doRoutes : Nat → Option (List Nat) := fun pc => (cond (Nat.beq pc 4) (some [0, 1, 2]) (cond (Nat.beq pc 57) (some [0, 2, 3]) none))
def ct_R_routeText : Nat → Option (List Nat) := fun pc => (cond (Nat.beq pc 95) (some [0, 2, 3, 4]) none)
def ct_R_doBring : Nat → Option (List Nat) := fun pc => none
def ct_R_doBook : Nat → Option (List Nat) := fun pc => (cond (Nat.beq pc 105) (some [0, 1, 2, 3, 4, 5, 6]) none)
def ct_R_doUnbook : Nat → Option (List Nat) := fun pc => none
def ct_R_doMark : Nat → Option (List Nat) := fun pc => none
def ct_R_callText : Nat → Option (List Nat) := fun pc => (cond (Nat.beq pc 37) (some [0, 1, 2, 3, 4]) (cond (Nat.beq pc 94) (some [0, 1, 2, 3, 4, 5]) (cond (Nat.beq pc 166) (some [0, 1, 2, 4, 5, 6]) (cond (Nat.beq pc 220) (some [0, 1, 2, 5, 6]) none))))
def ct_R_doChecks : Nat → Option (List Nat) := fun pc => (cond (Nat.beq pc 4) (some [0, 1, 2]) (cond (Nat.beq pc 57) (some [0, 2, 3]) none))
def ct_R_checkText : Nat → Option (List Nat) := fun pc => none
def ct_R_doStrict : Nat → Option (List Nat) := fun pc => none
def ct_R_doBatch : Nat → Option (List Nat) := fun pc => (cond (Nat.beq pc 29) (some [0, 2, 3]) (cond (Nat.beq pc 62) (some [0, 2, 3, 4, 5]) none))
def ct_R_findAll : Nat → Option (List Nat) := fun pc => (cond (Nat.beq pc 12) (some [0, 1]) (cond (Nat.beq pc 88) (some [0, 1, 2]) none))
def ct_R_build : Nat → Option (List Nat) := fun pc => (cond (Nat.beq pc 34) (some [0, 2, 3, 4, 5, 6]) none)
def ct_R_copyToPage : Nat → Option (List Nat) := fun pc => (cond (Nat.beq pc 3) (some [0, 1, 3, 4]) none)
def ct_R_answersAll : Nat → Option (List Nat) := fun pc => (cond (Nat.beq pc 4) (some [0, 1, 2, 3]) none)
def ct_R_meets : Nat → Option (List Nat) := fun pc => (cond (Nat.beq pc 16) (some [0, 1, 3, 4, 5]) (cond (Nat.beq pc 48) (some [0, 1, 3, 4, 5, 6]) none))
def ct_R_isTold : Nat → Option (List Nat) := fun pc => none
def ct_R_fieldMeets : Nat → Option (List Nat) := fun pc => (cond (Nat.beq pc 29) (some [0, 1, 3, 4]) none)
def ct_R_rowMeets : Nat → Option (List Nat) := fun pc => (cond (Nat.beq pc 3) (some [0, 1, 2, 3, 4]) none)
def ct_R_isOfWord : Nat → Option (List Nat) := fun pc => none
def ct_R_isLetter : Nat → Option (List Nat) := fun pc => none
def ct_R_lower : Nat → Option (List Nat) := fun pc => none
def ct_R_stands : Nat → Option (List Nat) := fun pc => (cond (Nat.beq pc 8) (some [0, 1, 3, 4, 5]) (cond (Nat.beq pc 23) (some [0, 1, 3, 4, 5]) (cond (Nat.beq pc 52) (some [0, 1, 3, 4, 5, 6]) (cond (Nat.beq pc 122) (some [0, 1, 3, 4, 5, 6, 7]) none))))
def ct_R_readTitle : Nat → Option (List Nat) := fun pc => (cond (Nat.beq pc 9) (some [0, 1, 2]) (cond (Nat.beq pc 147) (some [0, 1, 2, 5, 7]) none))
def ct_R_isAhead : Nat → Option (List Nat) := fun pc => none
def ct_R_compareTitles : Nat → Option (List Nat) := fun pc => (cond (Nat.beq pc 8) (some [0, 1, 2, 3, 4, 5]) none)
def ct_R_element : Nat → Option (List Nat) := fun pc => (cond (Nat.beq pc 10) (some [0, 1, 3, 4]) (cond (Nat.beq pc 80) (some [0, 1, 3, 4]) none))
def ct_R_compareElements : Nat → Option (List Nat) := fun pc => (cond (Nat.beq pc 7) (some [0, 1, 2, 4, 5, 7, 8, 9]) (cond (Nat.beq pc 42) (some [0, 1, 2, 4, 5, 7, 8, 9]) (cond (Nat.beq pc 115) (some [0, 2, 4, 5, 7, 8, 9]) none)))
def ct_R_swapFound : Nat → Option (List Nat) := fun pc => (cond (Nat.beq pc 57) (some [0, 1, 2, 5]) none)
def ct_R_isRight : Nat → Option (List Nat) := fun pc => (cond (Nat.beq pc 6) (some [0, 1, 2, 3]) (cond (Nat.beq pc 46) (some [0, 1, 2, 3, 4, 5, 6]) none))
def ct_R_isVersion : Nat → Option (List Nat) := fun pc => (cond (Nat.beq pc 21) (some [0, 1, 2, 3]) none)
def ct_R_doRetention : Nat → Option (List Nat) := fun pc => (cond (Nat.beq pc 4) (some [0, 1, 2]) (cond (Nat.beq pc 55) (some [0, 2, 3]) (cond (Nat.beq pc 82) (some [0, 2, 3]) none)))
def ct_R_keepText : Nat → Option (List Nat) := fun pc => (cond (Nat.beq pc 122) (some [0, 2, 3, 4, 5]) none)
def ct_R_doFreeze : Nat → Option (List Nat) := fun pc => none
def ct_R_doDispose : Nat → Option (List Nat) := fun pc => (cond (Nat.beq pc 4) (some [0, 1, 2]) (cond (Nat.beq pc 25) (some [0, 1, 2, 3]) none))
def ct_R_mayGo : Nat → Option (List Nat) := fun pc => (cond (Nat.beq pc 31) (some [0, 1, 2]) (cond (Nat.beq pc 59) (some [0, 1, 2]) (cond (Nat.beq pc 117) (some [0, 1, 2]) (cond (Nat.beq pc 167) (some [0, 1, 2]) none))))
def ct_R_fits : Nat → Option (List Nat) := fun pc => (cond (Nat.beq pc 2) (some [0, 1, 2]) (cond (Nat.beq pc 108) (some [0, 1, 2, 4, 5, 6, 7]) none))
def ct_R_doExchange : Nat → Option (List Nat) := fun pc => (cond (Nat.beq pc 34) (some [0, 2, 3]) (cond (Nat.beq pc 154) (some [0, 3, 4]) none))
def ct_R_messageText : Nat → Option (List Nat) := fun pc => (cond (Nat.beq pc 71) (some [0, 2, 3, 4]) none)
def ct_R_answerOf : Nat → Option (List Nat) := fun pc => none
def ct_R_forgetAsked : Nat → Option (List Nat) := fun pc => (cond (Nat.beq pc 27) (some [0, 1]) none)
def ct_R_deed : Nat → Option (List Nat) := fun pc => none
def ct_R_done : Nat → Option (List Nat) := fun pc => none
def ct_R_tally : Nat → Option (List Nat) := fun pc => none
def ct_R_underWay : Nat → Option (List Nat) := fun pc => (cond (Nat.beq pc 4) (some [0, 1, 2]) none)
def ct_R_count : Nat → Option (List Nat) := fun pc => none
def ct_R_tick : Nat → Option (List Nat) := fun pc => none
def ct_R_act : Nat → Option (List Nat) := fun pc => none
def ct_R_hasText : Nat → Option (List Nat) := fun pc => none
def ct_R_takeTape : Nat → Option (List Nat) := fun pc => none
def ct_R_note : Nat → Option (List Nat) := fun pc => (cond (Nat.beq pc 38) (some [0, 1, 2, 3, 4, 5, 6, 7, 8, 9]) (cond (Nat.beq pc 72) (some [0, 1, 2, 3, 4, 5, 6, 7]) (cond (Nat.beq pc 99) (some [0, 1, 2, 3, 4, 5, 6, 7, 8, 9]) (cond (Nat.beq pc 136) (some [0, 1, 2, 3, 4, 5, 6, 7, 8]) none))))
def ct_R_behindLog : Nat → Option (List Nat) := fun pc => none
def ct_R_record : Nat → Option (List Nat) := fun pc => none
def ct_R_edit : Nat → Option (List Nat) := fun pc => none
def ct_R_drop : Nat → Option (List Nat) := fun pc => none
def ct_R_print : Nat → Option (List Nat) := fun pc => (cond (Nat.beq pc 87) (some [0, 2, 4]) none)
def ct_R_writeExchange : Nat → Option (List Nat) := fun pc => (cond (Nat.beq pc 6) (some [0, 1, 2, 3]) (cond (Nat.beq pc 78) (some [0, 4, 5]) (cond (Nat.beq pc 165) (some [0, 4, 5]) none)))
def ct_R_exchangeField : Nat → Option (List Nat) := fun pc => (cond (Nat.beq pc 25) (some [0, 1, 2, 3, 4, 5]) none)
def ct_R_write : Nat → Option (List Nat) := fun pc => none
def ct_R_writeDigits : Nat → Option (List Nat) := fun pc => (cond (Nat.beq pc 5) (some [0, 1, 2, 3, 4]) (cond (Nat.beq pc 25) (some [0, 1, 4]) none))
def ct_R_printed : Nat → Option (List Nat) := fun pc => none
def ct_R_heading : Nat → Option (List Nat) := fun pc => none
def ct_R_rename : Nat → Option (List Nat) := fun pc => none
def ct_R_broader : Nat → Option (List Nat) := fun pc => none
def ct_R_link : Nat → Option (List Nat) := fun pc => none
def ct_R_find : Nat → Option (List Nat) := fun pc => none
def ct_R_hit : Nat → Option (List Nat) := fun pc => none
def ct_R_value : Nat → Option (List Nat) := fun pc => none
def ct_R_gatherValues : Nat → Option (List Nat) := fun pc => (cond (Nat.beq pc 7) (some [0, 1, 2]) (cond (Nat.beq pc 47) (some [0, 1, 2, 3, 4]) (cond (Nat.beq pc 148) (some [0, 1, 2]) (cond (Nat.beq pc 163) (some [0, 1, 2, 3, 4]) none))))
def ct_R_addValue : Nat → Option (List Nat) := fun pc => (cond (Nat.beq pc 3) (some [0, 1, 2, 3, 4]) (cond (Nat.beq pc 67) (some [0, 1, 2, 3, 4, 5]) none))
def ct_R_isValue : Nat → Option (List Nat) := fun pc => (cond (Nat.beq pc 22) (some [0, 1, 2, 3, 4, 5]) none)
def ct_R_isValueAhead : Nat → Option (List Nat) := fun pc => (cond (Nat.beq pc 38) (some [0, 1, 2, 3]) none)
def ct_R_swapValues : Nat → Option (List Nat) := fun pc => (cond (Nat.beq pc 55) (some [0, 1, 2, 4]) none)
def ct_R_reader : Nat → Option (List Nat) := fun pc => none
def ct_R_copy : Nat → Option (List Nat) := fun pc => none
def ct_R_away : Nat → Option (List Nat) := fun pc => none
def ct_R_rules : Nat → Option (List Nat) := fun pc => none
def ct_R_closed : Nat → Option (List Nat) := fun pc => none
def ct_R_lend : Nat → Option (List Nat) := fun pc => none
def ct_R_renew : Nat → Option (List Nat) := fun pc => none
def ct_R_back : Nat → Option (List Nat) := fun pc => none
def ct_R_hold : Nat → Option (List Nat) := fun pc => none
def ct_R_unhold : Nat → Option (List Nat) := fun pc => none
def ct_R_pay : Nat → Option (List Nat) := fun pc => none
def ct_R_state : Nat → Option (List Nat) := fun pc => none
def ct_R_queue : Nat → Option (List Nat) := fun pc => none
def ct_R_owes : Nat → Option (List Nat) := fun pc => none
def ct_R_home : Nat → Option (List Nat) := fun pc => none
def ct_R_pickup : Nat → Option (List Nat) := fun pc => none
def ct_R_routes : Nat → Option (List Nat) := fun pc => none
def ct_R_bring : Nat → Option (List Nat) := fun pc => none
def ct_R_where : Nat → Option (List Nat) := fun pc => none
def ct_R_book : Nat → Option (List Nat) := fun pc => none
def ct_R_unbook : Nat → Option (List Nat) := fun pc => none
def ct_R_mark : Nat → Option (List Nat) := fun pc => none
def ct_R_shelf : Nat → Option (List Nat) := fun pc => (cond (Nat.beq pc 2) (some [0, 1, 2, 3]) (cond (Nat.beq pc 38) (some [0, 1, 2, 3, 4, 5]) none))
def ct_R_standsAhead : Nat → Option (List Nat) := fun pc => (cond (Nat.beq pc 108) (some [0, 1, 2, 3]) (cond (Nat.beq pc 173) (some [0, 1, 2, 3]) none))
def ct_R_checks : Nat → Option (List Nat) := fun pc => none
def ct_R_strict : Nat → Option (List Nat) := fun pc => none
def ct_R_broke : Nat → Option (List Nat) := fun pc => none
def ct_R_batch : Nat → Option (List Nat) := fun pc => none
def ct_R_result : Nat → Option (List Nat) := fun pc => none
def ct_R_retention : Nat → Option (List Nat) := fun pc => none
def ct_R_freeze : Nat → Option (List Nat) := fun pc => none
def ct_R_due : Nat → Option (List Nat) := fun pc => (cond (Nat.beq pc 4) (some [0, 1, 2, 3]) none)
def ct_R_dispose : Nat → Option (List Nat) := fun pc => none
def ct_R_exchange : Nat → Option (List Nat) := fun pc => none
def ct_R_serial : Nat → Option (List Nat) := fun pc => none
def ct_R_issue : Nat → Option (List Nat) := fun pc => none
def ct_R_came : Nat → Option (List Nat) := fun pc => none
def ct_R_claim : Nat → Option (List Nat) := fun pc => (cond (Nat.beq pc 10) (some [0, 1, 2, 3, 4, 5]) (cond (Nat.beq pc 25) (some [0, 1, 2, 3, 4, 5, 6, 7, 8]) none))
def ct_R_nextClaim : Nat → Option (List Nat) := fun pc => (cond (Nat.beq pc 3) (some [0, 1, 2, 3, 4, 5]) none)
def ct_R_isBehind : Nat → Option (List Nat) := fun pc => none
def ct_R_fund : Nat → Option (List Nat) := fun pc => none
def ct_R_order : Nat → Option (List Nat) := fun pc => none
def ct_R_invoice : Nat → Option (List Nat) := fun pc => none
def ct_R_cancel : Nat → Option (List Nat) := fun pc => none
def ct_R_transfer : Nat → Option (List Nat) := fun pc => none
def ct_R_money : Nat → Option (List Nat) := fun pc => none
def ct_R_pack : Nat → Option (List Nat) := fun pc => none
def ct_R_answers : Nat → Option (List Nat) := fun pc => none
def ct_R_alter : Nat → Option (List Nat) := fun pc => none
def ct_R_lose : Nat → Option (List Nat) := fun pc => none
def ct_R_mend : Nat → Option (List Nat) := fun pc => none
def ct_R_octet : Nat → Option (List Nat) := fun pc => none
def ct_R_load : Nat → Option (List Nat) := fun pc => none
def ct_R_harvest : Nat → Option (List Nat) := fun pc => (cond (Nat.beq pc 2) (some [0, 1, 2, 3]) none)
def ct_R_next : Nat → Option (List Nat) := fun pc => (cond (Nat.beq pc 25) (some [0, 1, 2, 3]) none)
def ct_R_broken : Nat → Option (List Nat) := fun pc => (cond (Nat.beq pc 48) (some [0, 2, 3]) none)
def ct_R_badlyLent : Nat → Option (List Nat) := fun pc => (cond (Nat.beq pc 4) (some [0, 1, 2]) (cond (Nat.beq pc 17) (some [0, 1, 2, 3, 4]) none))
def ct_R_idle : Nat → Option (List Nat) := fun pc => (cond (Nat.beq pc 4) (some [0, 1, 2]) none)
def ct_R_rings : Nat → Option (List Nat) := fun pc => (cond (Nat.beq pc 4) (some [0, 1, 2]) (cond (Nat.beq pc 22) (some [0, 1, 2, 3, 4]) none))
def ct_R_doubled : Nat → Option (List Nat) := fun pc => (cond (Nat.beq pc 4) (some [0, 1, 2]) (cond (Nat.beq pc 17) (some [0, 1, 2, 3, 4]) none))
