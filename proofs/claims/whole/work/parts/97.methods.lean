/-! of each method the words -/
set_option maxRecDepth 100000 in
theorem cw1 : tw (mQ 1).2.2.1 = some (.code (yM 1) (bM 1) (mL 1) (rM 1)) := rfl
set_option maxRecDepth 100000 in
theorem cw2 : tw (mQ 2).2.2.1 = some (.code (yM 2) (bM 2) (mL 2) (rM 2)) := rfl
set_option maxRecDepth 100000 in
theorem cw3 : tw (mQ 3).2.2.1 = some (.code (yM 3) (bM 3) (mL 3) (rM 3)) := rfl
set_option maxRecDepth 100000 in
theorem cw4 : tw (mQ 4).2.2.1 = some (.code (yM 4) (bM 4) (mL 4) (rM 4)) := rfl
set_option maxRecDepth 100000 in
theorem cw5 : tw (mQ 5).2.2.1 = some (.code (yM 5) (bM 5) (mL 5) (rM 5)) := rfl
set_option maxRecDepth 100000 in
theorem cw6 : tw (mQ 6).2.2.1 = some (.code (yM 6) (bM 6) (mL 6) (rM 6)) := rfl
set_option maxRecDepth 100000 in
theorem cw7 : tw (mQ 7).2.2.1 = some (.code (yM 7) (bM 7) (mL 7) (rM 7)) := rfl
set_option maxRecDepth 100000 in
theorem cw8 : tw (mQ 8).2.2.1 = some (.code (yM 8) (bM 8) (mL 8) (rM 8)) := rfl
set_option maxRecDepth 100000 in
theorem cw9 : tw (mQ 9).2.2.1 = some (.code (yM 9) (bM 9) (mL 9) (rM 9)) := rfl
set_option maxRecDepth 100000 in
theorem cw10 : tw (mQ 10).2.2.1 = some (.code (yM 10) (bM 10) (mL 10) (rM 10)) := rfl
set_option maxRecDepth 100000 in
theorem cw11 : tw (mQ 11).2.2.1 = some (.code (yM 11) (bM 11) (mL 11) (rM 11)) := rfl
set_option maxRecDepth 100000 in
theorem cw12 : tw (mQ 12).2.2.1 = some (.code (yM 12) (bM 12) (mL 12) (rM 12)) := rfl
set_option maxRecDepth 100000 in
theorem cw13 : tw (mQ 13).2.2.1 = some (.code (yM 13) (bM 13) (mL 13) (rM 13)) := rfl
set_option maxRecDepth 100000 in
theorem cw14 : tw (mQ 14).2.2.1 = some (.code (yM 14) (bM 14) (mL 14) (rM 14)) := rfl
set_option maxRecDepth 100000 in
theorem cw15 : tw (mQ 15).2.2.1 = some (.code (yM 15) (bM 15) (mL 15) (rM 15)) := rfl
set_option maxRecDepth 100000 in
theorem cw16 : tw (mQ 16).2.2.1 = some (.code (yM 16) (bM 16) (mL 16) (rM 16)) := rfl
set_option maxRecDepth 100000 in
theorem cw17 : tw (mQ 17).2.2.1 = some (.code (yM 17) (bM 17) (mL 17) (rM 17)) := rfl
set_option maxRecDepth 100000 in
theorem cw18 : tw (mQ 18).2.2.1 = some (.code (yM 18) (bM 18) (mL 18) (rM 18)) := rfl
set_option maxRecDepth 100000 in
theorem cw19 : tw (mQ 19).2.2.1 = some (.code (yM 19) (bM 19) (mL 19) (rM 19)) := rfl
set_option maxRecDepth 100000 in
theorem cw20 : tw (mQ 20).2.2.1 = some (.code (yM 20) (bM 20) (mL 20) (rM 20)) := rfl
set_option maxRecDepth 100000 in
theorem cw21 : tw (mQ 21).2.2.1 = some (.code (yM 21) (bM 21) (mL 21) (rM 21)) := rfl
set_option maxRecDepth 100000 in
theorem cw22 : tw (mQ 22).2.2.1 = some (.code (yM 22) (bM 22) (mL 22) (rM 22)) := rfl
set_option maxRecDepth 100000 in
theorem cw23 : tw (mQ 23).2.2.1 = some (.code (yM 23) (bM 23) (mL 23) (rM 23)) := rfl
set_option maxRecDepth 100000 in
theorem cw24 : tw (mQ 24).2.2.1 = some (.code (yM 24) (bM 24) (mL 24) (rM 24)) := rfl
set_option maxRecDepth 100000 in
theorem cw25 : tw (mQ 25).2.2.1 = some (.code (yM 25) (bM 25) (mL 25) (rM 25)) := rfl
set_option maxRecDepth 100000 in
theorem cw26 : tw (mQ 26).2.2.1 = some (.code (yM 26) (bM 26) (mL 26) (rM 26)) := rfl
set_option maxRecDepth 100000 in
theorem cw27 : tw (mQ 27).2.2.1 = some (.code (yM 27) (bM 27) (mL 27) (rM 27)) := rfl
set_option maxRecDepth 100000 in
theorem cw28 : tw (mQ 28).2.2.1 = some (.code (yM 28) (bM 28) (mL 28) (rM 28)) := rfl
set_option maxRecDepth 100000 in
theorem cw29 : tw (mQ 29).2.2.1 = some (.code (yM 29) (bM 29) (mL 29) (rM 29)) := rfl
set_option maxRecDepth 100000 in
theorem cw30 : tw (mQ 30).2.2.1 = some (.code (yM 30) (bM 30) (mL 30) (rM 30)) := rfl
set_option maxRecDepth 100000 in
theorem cw31 : tw (mQ 31).2.2.1 = some (.code (yM 31) (bM 31) (mL 31) (rM 31)) := rfl
set_option maxRecDepth 100000 in
theorem cw32 : tw (mQ 32).2.2.1 = some (.code (yM 32) (bM 32) (mL 32) (rM 32)) := rfl
set_option maxRecDepth 100000 in
theorem cw33 : tw (mQ 33).2.2.1 = some (.code (yM 33) (bM 33) (mL 33) (rM 33)) := rfl
set_option maxRecDepth 100000 in
theorem cw34 : tw (mQ 34).2.2.1 = some (.code (yM 34) (bM 34) (mL 34) (rM 34)) := rfl
set_option maxRecDepth 100000 in
theorem cw35 : tw (mQ 35).2.2.1 = some (.code (yM 35) (bM 35) (mL 35) (rM 35)) := rfl
set_option maxRecDepth 100000 in
theorem cw36 : tw (mQ 36).2.2.1 = some (.code (yM 36) (bM 36) (mL 36) (rM 36)) := rfl
set_option maxRecDepth 100000 in
theorem cw37 : tw (mQ 37).2.2.1 = some (.code (yM 37) (bM 37) (mL 37) (rM 37)) := rfl
set_option maxRecDepth 100000 in
theorem cw38 : tw (mQ 38).2.2.1 = some (.code (yM 38) (bM 38) (mL 38) (rM 38)) := rfl
set_option maxRecDepth 100000 in
theorem cw39 : tw (mQ 39).2.2.1 = some (.code (yM 39) (bM 39) (mL 39) (rM 39)) := rfl
set_option maxRecDepth 100000 in
theorem cw40 : tw (mQ 40).2.2.1 = some (.code (yM 40) (bM 40) (mL 40) (rM 40)) := rfl
set_option maxRecDepth 100000 in
theorem cw41 : tw (mQ 41).2.2.1 = some (.code (yM 41) (bM 41) (mL 41) (rM 41)) := rfl
set_option maxRecDepth 100000 in
theorem cw42 : tw (mQ 42).2.2.1 = some (.code (yM 42) (bM 42) (mL 42) (rM 42)) := rfl
set_option maxRecDepth 100000 in
theorem cw43 : tw (mQ 43).2.2.1 = some (.code (yM 43) (bM 43) (mL 43) (rM 43)) := rfl
set_option maxRecDepth 100000 in
theorem cw44 : tw (mQ 44).2.2.1 = some (.code (yM 44) (bM 44) (mL 44) (rM 44)) := rfl
set_option maxRecDepth 100000 in
theorem cw45 : tw (mQ 45).2.2.1 = some (.code (yM 45) (bM 45) (mL 45) (rM 45)) := rfl
set_option maxRecDepth 100000 in
theorem cw46 : tw (mQ 46).2.2.1 = some (.code (yM 46) (bM 46) (mL 46) (rM 46)) := rfl
set_option maxRecDepth 100000 in
theorem cw47 : tw (mQ 47).2.2.1 = some (.code (yM 47) (bM 47) (mL 47) (rM 47)) := rfl
set_option maxRecDepth 100000 in
theorem cw48 : tw (mQ 48).2.2.1 = some (.code (yM 48) (bM 48) (mL 48) (rM 48)) := rfl
set_option maxRecDepth 100000 in
theorem cw49 : tw (mQ 49).2.2.1 = some (.code (yM 49) (bM 49) (mL 49) (rM 49)) := rfl
set_option maxRecDepth 100000 in
theorem cw50 : tw (mQ 50).2.2.1 = some (.code (yM 50) (bM 50) (mL 50) (rM 50)) := rfl
set_option maxRecDepth 100000 in
theorem cw51 : tw (mQ 51).2.2.1 = some (.code (yM 51) (bM 51) (mL 51) (rM 51)) := rfl
set_option maxRecDepth 100000 in
theorem cw52 : tw (mQ 52).2.2.1 = some (.code (yM 52) (bM 52) (mL 52) (rM 52)) := rfl
set_option maxRecDepth 100000 in
theorem cw53 : tw (mQ 53).2.2.1 = some (.code (yM 53) (bM 53) (mL 53) (rM 53)) := rfl
set_option maxRecDepth 100000 in
theorem cw54 : tw (mQ 54).2.2.1 = some (.code (yM 54) (bM 54) (mL 54) (rM 54)) := rfl
set_option maxRecDepth 100000 in
theorem cw55 : tw (mQ 55).2.2.1 = some (.code (yM 55) (bM 55) (mL 55) (rM 55)) := rfl
set_option maxRecDepth 100000 in
theorem cw56 : tw (mQ 56).2.2.1 = some (.code (yM 56) (bM 56) (mL 56) (rM 56)) := rfl
set_option maxRecDepth 100000 in
theorem cw57 : tw (mQ 57).2.2.1 = some (.code (yM 57) (bM 57) (mL 57) (rM 57)) := rfl
set_option maxRecDepth 100000 in
theorem cw58 : tw (mQ 58).2.2.1 = some (.code (yM 58) (bM 58) (mL 58) (rM 58)) := rfl
set_option maxRecDepth 100000 in
theorem cw59 : tw (mQ 59).2.2.1 = some (.code (yM 59) (bM 59) (mL 59) (rM 59)) := rfl
set_option maxRecDepth 100000 in
theorem cw60 : tw (mQ 60).2.2.1 = some (.code (yM 60) (bM 60) (mL 60) (rM 60)) := rfl
set_option maxRecDepth 100000 in
theorem cw61 : tw (mQ 61).2.2.1 = some (.code (yM 61) (bM 61) (mL 61) (rM 61)) := rfl
set_option maxRecDepth 100000 in
theorem cw62 : tw (mQ 62).2.2.1 = some (.code (yM 62) (bM 62) (mL 62) (rM 62)) := rfl
set_option maxRecDepth 100000 in
theorem cw63 : tw (mQ 63).2.2.1 = some (.code (yM 63) (bM 63) (mL 63) (rM 63)) := rfl
set_option maxRecDepth 100000 in
theorem cw64 : tw (mQ 64).2.2.1 = some (.code (yM 64) (bM 64) (mL 64) (rM 64)) := rfl
set_option maxRecDepth 100000 in
theorem cw65 : tw (mQ 65).2.2.1 = some (.code (yM 65) (bM 65) (mL 65) (rM 65)) := rfl
set_option maxRecDepth 100000 in
theorem cw66 : tw (mQ 66).2.2.1 = some (.code (yM 66) (bM 66) (mL 66) (rM 66)) := rfl
set_option maxRecDepth 100000 in
theorem cw67 : tw (mQ 67).2.2.1 = some (.code (yM 67) (bM 67) (mL 67) (rM 67)) := rfl
set_option maxRecDepth 100000 in
theorem cw68 : tw (mQ 68).2.2.1 = some (.code (yM 68) (bM 68) (mL 68) (rM 68)) := rfl
set_option maxRecDepth 100000 in
theorem cw69 : tw (mQ 69).2.2.1 = some (.code (yM 69) (bM 69) (mL 69) (rM 69)) := rfl
set_option maxRecDepth 100000 in
theorem cw70 : tw (mQ 70).2.2.1 = some (.code (yM 70) (bM 70) (mL 70) (rM 70)) := rfl
set_option maxRecDepth 100000 in
theorem cw71 : tw (mQ 71).2.2.1 = some (.code (yM 71) (bM 71) (mL 71) (rM 71)) := rfl
set_option maxRecDepth 100000 in
theorem cw72 : tw (mQ 72).2.2.1 = some (.code (yM 72) (bM 72) (mL 72) (rM 72)) := rfl
set_option maxRecDepth 100000 in
theorem cw73 : tw (mQ 73).2.2.1 = some (.code (yM 73) (bM 73) (mL 73) (rM 73)) := rfl
set_option maxRecDepth 100000 in
theorem cw74 : tw (mQ 74).2.2.1 = some (.code (yM 74) (bM 74) (mL 74) (rM 74)) := rfl
set_option maxRecDepth 100000 in
theorem cw75 : tw (mQ 75).2.2.1 = some (.code (yM 75) (bM 75) (mL 75) (rM 75)) := rfl
set_option maxRecDepth 100000 in
theorem cw76 : tw (mQ 76).2.2.1 = some (.code (yM 76) (bM 76) (mL 76) (rM 76)) := rfl
set_option maxRecDepth 100000 in
theorem cw77 : tw (mQ 77).2.2.1 = some (.code (yM 77) (bM 77) (mL 77) (rM 77)) := rfl
set_option maxRecDepth 100000 in
theorem cw78 : tw (mQ 78).2.2.1 = some (.code (yM 78) (bM 78) (mL 78) (rM 78)) := rfl
set_option maxRecDepth 100000 in
theorem cw79 : tw (mQ 79).2.2.1 = some (.code (yM 79) (bM 79) (mL 79) (rM 79)) := rfl
set_option maxRecDepth 100000 in
theorem cw80 : tw (mQ 80).2.2.1 = some (.code (yM 80) (bM 80) (mL 80) (rM 80)) := rfl
set_option maxRecDepth 100000 in
theorem cw81 : tw (mQ 81).2.2.1 = some (.code (yM 81) (bM 81) (mL 81) (rM 81)) := rfl
set_option maxRecDepth 100000 in
theorem cw82 : tw (mQ 82).2.2.1 = some (.code (yM 82) (bM 82) (mL 82) (rM 82)) := rfl
set_option maxRecDepth 100000 in
theorem cw83 : tw (mQ 83).2.2.1 = some (.code (yM 83) (bM 83) (mL 83) (rM 83)) := rfl
set_option maxRecDepth 100000 in
theorem cw84 : tw (mQ 84).2.2.1 = some (.code (yM 84) (bM 84) (mL 84) (rM 84)) := rfl
set_option maxRecDepth 100000 in
theorem cw85 : tw (mQ 85).2.2.1 = some (.code (yM 85) (bM 85) (mL 85) (rM 85)) := rfl
set_option maxRecDepth 100000 in
theorem cw86 : tw (mQ 86).2.2.1 = some (.code (yM 86) (bM 86) (mL 86) (rM 86)) := rfl
set_option maxRecDepth 100000 in
theorem cw87 : tw (mQ 87).2.2.1 = some (.code (yM 87) (bM 87) (mL 87) (rM 87)) := rfl
set_option maxRecDepth 100000 in
theorem cw88 : tw (mQ 88).2.2.1 = some (.code (yM 88) (bM 88) (mL 88) (rM 88)) := rfl
set_option maxRecDepth 100000 in
theorem cw89 : tw (mQ 89).2.2.1 = some (.code (yM 89) (bM 89) (mL 89) (rM 89)) := rfl
set_option maxRecDepth 100000 in
theorem cw90 : tw (mQ 90).2.2.1 = some (.code (yM 90) (bM 90) (mL 90) (rM 90)) := rfl
set_option maxRecDepth 100000 in
theorem cw91 : tw (mQ 91).2.2.1 = some (.code (yM 91) (bM 91) (mL 91) (rM 91)) := rfl
set_option maxRecDepth 100000 in
theorem cw92 : tw (mQ 92).2.2.1 = some (.code (yM 92) (bM 92) (mL 92) (rM 92)) := rfl
set_option maxRecDepth 100000 in
theorem cw93 : tw (mQ 93).2.2.1 = some (.code (yM 93) (bM 93) (mL 93) (rM 93)) := rfl
set_option maxRecDepth 100000 in
theorem cw94 : tw (mQ 94).2.2.1 = some (.code (yM 94) (bM 94) (mL 94) (rM 94)) := rfl
set_option maxRecDepth 100000 in
theorem cw95 : tw (mQ 95).2.2.1 = some (.code (yM 95) (bM 95) (mL 95) (rM 95)) := rfl
set_option maxRecDepth 100000 in
theorem cw96 : tw (mQ 96).2.2.1 = some (.code (yM 96) (bM 96) (mL 96) (rM 96)) := rfl
set_option maxRecDepth 100000 in
theorem cw97 : tw (mQ 97).2.2.1 = some (.code (yM 97) (bM 97) (mL 97) (rM 97)) := rfl
set_option maxRecDepth 100000 in
theorem cw98 : tw (mQ 98).2.2.1 = some (.code (yM 98) (bM 98) (mL 98) (rM 98)) := rfl
set_option maxRecDepth 100000 in
theorem cw99 : tw (mQ 99).2.2.1 = some (.code (yM 99) (bM 99) (mL 99) (rM 99)) := rfl
set_option maxRecDepth 100000 in
theorem cw100 : tw (mQ 100).2.2.1 = some (.code (yM 100) (bM 100) (mL 100) (rM 100)) := rfl
set_option maxRecDepth 100000 in
theorem cw101 : tw (mQ 101).2.2.1 = some (.code (yM 101) (bM 101) (mL 101) (rM 101)) := rfl
set_option maxRecDepth 100000 in
theorem cw102 : tw (mQ 102).2.2.1 = some (.code (yM 102) (bM 102) (mL 102) (rM 102)) := rfl
set_option maxRecDepth 100000 in
theorem cw103 : tw (mQ 103).2.2.1 = some (.code (yM 103) (bM 103) (mL 103) (rM 103)) := rfl
set_option maxRecDepth 100000 in
theorem cw104 : tw (mQ 104).2.2.1 = some (.code (yM 104) (bM 104) (mL 104) (rM 104)) := rfl
set_option maxRecDepth 100000 in
theorem cw105 : tw (mQ 105).2.2.1 = some (.code (yM 105) (bM 105) (mL 105) (rM 105)) := rfl
set_option maxRecDepth 100000 in
theorem cw106 : tw (mQ 106).2.2.1 = some (.code (yM 106) (bM 106) (mL 106) (rM 106)) := rfl
set_option maxRecDepth 100000 in
theorem cw107 : tw (mQ 107).2.2.1 = some (.code (yM 107) (bM 107) (mL 107) (rM 107)) := rfl
set_option maxRecDepth 100000 in
theorem cw108 : tw (mQ 108).2.2.1 = some (.code (yM 108) (bM 108) (mL 108) (rM 108)) := rfl
set_option maxRecDepth 100000 in
theorem cw109 : tw (mQ 109).2.2.1 = some (.code (yM 109) (bM 109) (mL 109) (rM 109)) := rfl
set_option maxRecDepth 100000 in
theorem cw110 : tw (mQ 110).2.2.1 = some (.code (yM 110) (bM 110) (mL 110) (rM 110)) := rfl
set_option maxRecDepth 100000 in
theorem cw111 : tw (mQ 111).2.2.1 = some (.code (yM 111) (bM 111) (mL 111) (rM 111)) := rfl
set_option maxRecDepth 100000 in
theorem cw112 : tw (mQ 112).2.2.1 = some (.code (yM 112) (bM 112) (mL 112) (rM 112)) := rfl
set_option maxRecDepth 100000 in
theorem cw113 : tw (mQ 113).2.2.1 = some (.code (yM 113) (bM 113) (mL 113) (rM 113)) := rfl
set_option maxRecDepth 100000 in
theorem cw114 : tw (mQ 114).2.2.1 = some (.code (yM 114) (bM 114) (mL 114) (rM 114)) := rfl
set_option maxRecDepth 100000 in
theorem cw115 : tw (mQ 115).2.2.1 = some (.code (yM 115) (bM 115) (mL 115) (rM 115)) := rfl
set_option maxRecDepth 100000 in
theorem cw116 : tw (mQ 116).2.2.1 = some (.code (yM 116) (bM 116) (mL 116) (rM 116)) := rfl
set_option maxRecDepth 100000 in
theorem cw117 : tw (mQ 117).2.2.1 = some (.code (yM 117) (bM 117) (mL 117) (rM 117)) := rfl
set_option maxRecDepth 100000 in
theorem cw118 : tw (mQ 118).2.2.1 = some (.code (yM 118) (bM 118) (mL 118) (rM 118)) := rfl
set_option maxRecDepth 100000 in
theorem cw119 : tw (mQ 119).2.2.1 = some (.code (yM 119) (bM 119) (mL 119) (rM 119)) := rfl
set_option maxRecDepth 100000 in
theorem cw120 : tw (mQ 120).2.2.1 = some (.code (yM 120) (bM 120) (mL 120) (rM 120)) := rfl
set_option maxRecDepth 100000 in
theorem cw121 : tw (mQ 121).2.2.1 = some (.code (yM 121) (bM 121) (mL 121) (rM 121)) := rfl
set_option maxRecDepth 100000 in
theorem cw122 : tw (mQ 122).2.2.1 = some (.code (yM 122) (bM 122) (mL 122) (rM 122)) := rfl
set_option maxRecDepth 100000 in
theorem cw123 : tw (mQ 123).2.2.1 = some (.code (yM 123) (bM 123) (mL 123) (rM 123)) := rfl
set_option maxRecDepth 100000 in
theorem cw124 : tw (mQ 124).2.2.1 = some (.code (yM 124) (bM 124) (mL 124) (rM 124)) := rfl
set_option maxRecDepth 100000 in
theorem cw125 : tw (mQ 125).2.2.1 = some (.code (yM 125) (bM 125) (mL 125) (rM 125)) := rfl
set_option maxRecDepth 100000 in
theorem cw126 : tw (mQ 126).2.2.1 = some (.code (yM 126) (bM 126) (mL 126) (rM 126)) := rfl
set_option maxRecDepth 100000 in
theorem cw127 : tw (mQ 127).2.2.1 = some (.code (yM 127) (bM 127) (mL 127) (rM 127)) := rfl
set_option maxRecDepth 100000 in
theorem cw128 : tw (mQ 128).2.2.1 = some (.code (yM 128) (bM 128) (mL 128) (rM 128)) := rfl
set_option maxRecDepth 100000 in
theorem cw129 : tw (mQ 129).2.2.1 = some (.code (yM 129) (bM 129) (mL 129) (rM 129)) := rfl
set_option maxRecDepth 100000 in
theorem cw130 : tw (mQ 130).2.2.1 = some (.code (yM 130) (bM 130) (mL 130) (rM 130)) := rfl
set_option maxRecDepth 100000 in
theorem cw131 : tw (mQ 131).2.2.1 = some (.code (yM 131) (bM 131) (mL 131) (rM 131)) := rfl
set_option maxRecDepth 100000 in
theorem cw132 : tw (mQ 132).2.2.1 = some (.code (yM 132) (bM 132) (mL 132) (rM 132)) := rfl
set_option maxRecDepth 100000 in
theorem cw133 : tw (mQ 133).2.2.1 = some (.code (yM 133) (bM 133) (mL 133) (rM 133)) := rfl
set_option maxRecDepth 100000 in
theorem cw134 : tw (mQ 134).2.2.1 = some (.code (yM 134) (bM 134) (mL 134) (rM 134)) := rfl
set_option maxRecDepth 100000 in
theorem cw135 : tw (mQ 135).2.2.1 = some (.code (yM 135) (bM 135) (mL 135) (rM 135)) := rfl
set_option maxRecDepth 100000 in
theorem cw136 : tw (mQ 136).2.2.1 = some (.code (yM 136) (bM 136) (mL 136) (rM 136)) := rfl
set_option maxRecDepth 100000 in
theorem cw137 : tw (mQ 137).2.2.1 = some (.code (yM 137) (bM 137) (mL 137) (rM 137)) := rfl
set_option maxRecDepth 100000 in
theorem cw138 : tw (mQ 138).2.2.1 = some (.code (yM 138) (bM 138) (mL 138) (rM 138)) := rfl
set_option maxRecDepth 100000 in
theorem cw139 : tw (mQ 139).2.2.1 = some (.code (yM 139) (bM 139) (mL 139) (rM 139)) := rfl
set_option maxRecDepth 100000 in
theorem cw140 : tw (mQ 140).2.2.1 = some (.code (yM 140) (bM 140) (mL 140) (rM 140)) := rfl
set_option maxRecDepth 100000 in
theorem cw141 : tw (mQ 141).2.2.1 = some (.code (yM 141) (bM 141) (mL 141) (rM 141)) := rfl
set_option maxRecDepth 100000 in
theorem cw142 : tw (mQ 142).2.2.1 = some (.code (yM 142) (bM 142) (mL 142) (rM 142)) := rfl
set_option maxRecDepth 100000 in
theorem cw143 : tw (mQ 143).2.2.1 = some (.code (yM 143) (bM 143) (mL 143) (rM 143)) := rfl
set_option maxRecDepth 100000 in
theorem cw144 : tw (mQ 144).2.2.1 = some (.code (yM 144) (bM 144) (mL 144) (rM 144)) := rfl
set_option maxRecDepth 100000 in
theorem cw145 : tw (mQ 145).2.2.1 = some (.code (yM 145) (bM 145) (mL 145) (rM 145)) := rfl
set_option maxRecDepth 100000 in
theorem cw146 : tw (mQ 146).2.2.1 = some (.code (yM 146) (bM 146) (mL 146) (rM 146)) := rfl
set_option maxRecDepth 100000 in
theorem cw147 : tw (mQ 147).2.2.1 = some (.code (yM 147) (bM 147) (mL 147) (rM 147)) := rfl
set_option maxRecDepth 100000 in
theorem cw148 : tw (mQ 148).2.2.1 = some (.code (yM 148) (bM 148) (mL 148) (rM 148)) := rfl
set_option maxRecDepth 100000 in
theorem cw149 : tw (mQ 149).2.2.1 = some (.code (yM 149) (bM 149) (mL 149) (rM 149)) := rfl
set_option maxRecDepth 100000 in
theorem cw150 : tw (mQ 150).2.2.1 = some (.code (yM 150) (bM 150) (mL 150) (rM 150)) := rfl
set_option maxRecDepth 100000 in
theorem cw151 : tw (mQ 151).2.2.1 = some (.code (yM 151) (bM 151) (mL 151) (rM 151)) := rfl
set_option maxRecDepth 100000 in
theorem cw152 : tw (mQ 152).2.2.1 = some (.code (yM 152) (bM 152) (mL 152) (rM 152)) := rfl
set_option maxRecDepth 100000 in
theorem cw153 : tw (mQ 153).2.2.1 = some (.code (yM 153) (bM 153) (mL 153) (rM 153)) := rfl
set_option maxRecDepth 100000 in
theorem cw154 : tw (mQ 154).2.2.1 = some (.code (yM 154) (bM 154) (mL 154) (rM 154)) := rfl
set_option maxRecDepth 100000 in
theorem cw155 : tw (mQ 155).2.2.1 = some (.code (yM 155) (bM 155) (mL 155) (rM 155)) := rfl
set_option maxRecDepth 100000 in
theorem cw156 : tw (mQ 156).2.2.1 = some (.code (yM 156) (bM 156) (mL 156) (rM 156)) := rfl
set_option maxRecDepth 100000 in
theorem cw157 : tw (mQ 157).2.2.1 = some (.code (yM 157) (bM 157) (mL 157) (rM 157)) := rfl
set_option maxRecDepth 100000 in
theorem cw158 : tw (mQ 158).2.2.1 = some (.code (yM 158) (bM 158) (mL 158) (rM 158)) := rfl
set_option maxRecDepth 100000 in
theorem cw159 : tw (mQ 159).2.2.1 = some (.code (yM 159) (bM 159) (mL 159) (rM 159)) := rfl
set_option maxRecDepth 100000 in
theorem cw160 : tw (mQ 160).2.2.1 = some (.code (yM 160) (bM 160) (mL 160) (rM 160)) := rfl
set_option maxRecDepth 100000 in
theorem cw161 : tw (mQ 161).2.2.1 = some (.code (yM 161) (bM 161) (mL 161) (rM 161)) := rfl
set_option maxRecDepth 100000 in
theorem cw162 : tw (mQ 162).2.2.1 = some (.code (yM 162) (bM 162) (mL 162) (rM 162)) := rfl
set_option maxRecDepth 100000 in
theorem cw163 : tw (mQ 163).2.2.1 = some (.code (yM 163) (bM 163) (mL 163) (rM 163)) := rfl
set_option maxRecDepth 100000 in
theorem cw164 : tw (mQ 164).2.2.1 = some (.code (yM 164) (bM 164) (mL 164) (rM 164)) := rfl
set_option maxRecDepth 100000 in
theorem cw165 : tw (mQ 165).2.2.1 = some (.code (yM 165) (bM 165) (mL 165) (rM 165)) := rfl
set_option maxRecDepth 100000 in
theorem cw166 : tw (mQ 166).2.2.1 = some (.code (yM 166) (bM 166) (mL 166) (rM 166)) := rfl
set_option maxRecDepth 100000 in
theorem cw167 : tw (mQ 167).2.2.1 = some (.code (yM 167) (bM 167) (mL 167) (rM 167)) := rfl
set_option maxRecDepth 100000 in
theorem cw168 : tw (mQ 168).2.2.1 = some (.code (yM 168) (bM 168) (mL 168) (rM 168)) := rfl
set_option maxRecDepth 100000 in
theorem cw169 : tw (mQ 169).2.2.1 = some (.code (yM 169) (bM 169) (mL 169) (rM 169)) := rfl
set_option maxRecDepth 100000 in
theorem cw170 : tw (mQ 170).2.2.1 = some (.code (yM 170) (bM 170) (mL 170) (rM 170)) := rfl
set_option maxRecDepth 100000 in
theorem cw171 : tw (mQ 171).2.2.1 = some (.code (yM 171) (bM 171) (mL 171) (rM 171)) := rfl
set_option maxRecDepth 100000 in
theorem cw172 : tw (mQ 172).2.2.1 = some (.code (yM 172) (bM 172) (mL 172) (rM 172)) := rfl
set_option maxRecDepth 100000 in
theorem cw173 : tw (mQ 173).2.2.1 = some (.code (yM 173) (bM 173) (mL 173) (rM 173)) := rfl
set_option maxRecDepth 100000 in
theorem cw174 : tw (mQ 174).2.2.1 = some (.code (yM 174) (bM 174) (mL 174) (rM 174)) := rfl
set_option maxRecDepth 100000 in
theorem cw175 : tw (mQ 175).2.2.1 = some (.code (yM 175) (bM 175) (mL 175) (rM 175)) := rfl
set_option maxRecDepth 100000 in
theorem cw176 : tw (mQ 176).2.2.1 = some (.code (yM 176) (bM 176) (mL 176) (rM 176)) := rfl
set_option maxRecDepth 100000 in
theorem cw177 : tw (mQ 177).2.2.1 = some (.code (yM 177) (bM 177) (mL 177) (rM 177)) := rfl
set_option maxRecDepth 100000 in
theorem cw178 : tw (mQ 178).2.2.1 = some (.code (yM 178) (bM 178) (mL 178) (rM 178)) := rfl
set_option maxRecDepth 100000 in
theorem cw179 : tw (mQ 179).2.2.1 = some (.code (yM 179) (bM 179) (mL 179) (rM 179)) := rfl
set_option maxRecDepth 100000 in
theorem cw180 : tw (mQ 180).2.2.1 = some (.code (yM 180) (bM 180) (mL 180) (rM 180)) := rfl
set_option maxRecDepth 100000 in
theorem cw181 : tw (mQ 181).2.2.1 = some (.code (yM 181) (bM 181) (mL 181) (rM 181)) := rfl
set_option maxRecDepth 100000 in
theorem cw182 : tw (mQ 182).2.2.1 = some (.code (yM 182) (bM 182) (mL 182) (rM 182)) := rfl
set_option maxRecDepth 100000 in
theorem cw183 : tw (mQ 183).2.2.1 = some (.code (yM 183) (bM 183) (mL 183) (rM 183)) := rfl
set_option maxRecDepth 100000 in
theorem cw184 : tw (mQ 184).2.2.1 = some (.code (yM 184) (bM 184) (mL 184) (rM 184)) := rfl
set_option maxRecDepth 100000 in
theorem cw185 : tw (mQ 185).2.2.1 = some (.code (yM 185) (bM 185) (mL 185) (rM 185)) := rfl
set_option maxRecDepth 100000 in
theorem cw186 : tw (mQ 186).2.2.1 = some (.code (yM 186) (bM 186) (mL 186) (rM 186)) := rfl
set_option maxRecDepth 100000 in
theorem cw187 : tw (mQ 187).2.2.1 = some (.code (yM 187) (bM 187) (mL 187) (rM 187)) := rfl
set_option maxRecDepth 100000 in
theorem cw188 : tw (mQ 188).2.2.1 = some (.code (yM 188) (bM 188) (mL 188) (rM 188)) := rfl
set_option maxRecDepth 100000 in
theorem cw189 : tw (mQ 189).2.2.1 = some (.code (yM 189) (bM 189) (mL 189) (rM 189)) := rfl
set_option maxRecDepth 100000 in
theorem cw190 : tw (mQ 190).2.2.1 = some (.code (yM 190) (bM 190) (mL 190) (rM 190)) := rfl
set_option maxRecDepth 100000 in
theorem cw191 : tw (mQ 191).2.2.1 = some (.code (yM 191) (bM 191) (mL 191) (rM 191)) := rfl
set_option maxRecDepth 100000 in
theorem cw192 : tw (mQ 192).2.2.1 = some (.code (yM 192) (bM 192) (mL 192) (rM 192)) := rfl
set_option maxRecDepth 100000 in
theorem cw193 : tw (mQ 193).2.2.1 = some (.code (yM 193) (bM 193) (mL 193) (rM 193)) := rfl
set_option maxRecDepth 100000 in
theorem cw194 : tw (mQ 194).2.2.1 = some (.code (yM 194) (bM 194) (mL 194) (rM 194)) := rfl
set_option maxRecDepth 100000 in
theorem cw195 : tw (mQ 195).2.2.1 = some (.code (yM 195) (bM 195) (mL 195) (rM 195)) := rfl
set_option maxRecDepth 100000 in
theorem cw196 : tw (mQ 196).2.2.1 = some (.code (yM 196) (bM 196) (mL 196) (rM 196)) := rfl
set_option maxRecDepth 100000 in
theorem cw197 : tw (mQ 197).2.2.1 = some (.code (yM 197) (bM 197) (mL 197) (rM 197)) := rfl
set_option maxRecDepth 100000 in
theorem cw198 : tw (mQ 198).2.2.1 = some (.code (yM 198) (bM 198) (mL 198) (rM 198)) := rfl
set_option maxRecDepth 100000 in
theorem cw199 : tw (mQ 199).2.2.1 = some (.code (yM 199) (bM 199) (mL 199) (rM 199)) := rfl
set_option maxRecDepth 100000 in
theorem cw200 : tw (mQ 200).2.2.1 = some (.code (yM 200) (bM 200) (mL 200) (rM 200)) := rfl
set_option maxRecDepth 100000 in
theorem cw201 : tw (mQ 201).2.2.1 = some (.code (yM 201) (bM 201) (mL 201) (rM 201)) := rfl
set_option maxRecDepth 100000 in
theorem cw202 : tw (mQ 202).2.2.1 = some (.code (yM 202) (bM 202) (mL 202) (rM 202)) := rfl
set_option maxRecDepth 100000 in
theorem cw203 : tw (mQ 203).2.2.1 = some (.code (yM 203) (bM 203) (mL 203) (rM 203)) := rfl
set_option maxRecDepth 100000 in
theorem cw204 : tw (mQ 204).2.2.1 = some (.code (yM 204) (bM 204) (mL 204) (rM 204)) := rfl
set_option maxRecDepth 100000 in
theorem cw205 : tw (mQ 205).2.2.1 = some (.code (yM 205) (bM 205) (mL 205) (rM 205)) := rfl
set_option maxRecDepth 100000 in
theorem cw206 : tw (mQ 206).2.2.1 = some (.code (yM 206) (bM 206) (mL 206) (rM 206)) := rfl
set_option maxRecDepth 100000 in
theorem cw207 : tw (mQ 207).2.2.1 = some (.code (yM 207) (bM 207) (mL 207) (rM 207)) := rfl
set_option maxRecDepth 100000 in
theorem cw208 : tw (mQ 208).2.2.1 = some (.code (yM 208) (bM 208) (mL 208) (rM 208)) := rfl
set_option maxRecDepth 100000 in
theorem cw209 : tw (mQ 209).2.2.1 = some (.code (yM 209) (bM 209) (mL 209) (rM 209)) := rfl
set_option maxRecDepth 100000 in
theorem cw210 : tw (mQ 210).2.2.1 = some (.code (yM 210) (bM 210) (mL 210) (rM 210)) := rfl
set_option maxRecDepth 100000 in
theorem cw211 : tw (mQ 211).2.2.1 = some (.code (yM 211) (bM 211) (mL 211) (rM 211)) := rfl
set_option maxRecDepth 100000 in
theorem cw212 : tw (mQ 212).2.2.1 = some (.code (yM 212) (bM 212) (mL 212) (rM 212)) := rfl
set_option maxRecDepth 100000 in
theorem cw213 : tw (mQ 213).2.2.1 = some (.code (yM 213) (bM 213) (mL 213) (rM 213)) := rfl
set_option maxRecDepth 100000 in
theorem cw214 : tw (mQ 214).2.2.1 = some (.code (yM 214) (bM 214) (mL 214) (rM 214)) := rfl
set_option maxRecDepth 100000 in
theorem cw215 : tw (mQ 215).2.2.1 = some (.code (yM 215) (bM 215) (mL 215) (rM 215)) := rfl
set_option maxRecDepth 100000 in
theorem cw216 : tw (mQ 216).2.2.1 = some (.code (yM 216) (bM 216) (mL 216) (rM 216)) := rfl
set_option maxRecDepth 100000 in
theorem cw217 : tw (mQ 217).2.2.1 = some (.code (yM 217) (bM 217) (mL 217) (rM 217)) := rfl
set_option maxRecDepth 100000 in
theorem cw218 : tw (mQ 218).2.2.1 = some (.code (yM 218) (bM 218) (mL 218) (rM 218)) := rfl
set_option maxRecDepth 100000 in
theorem cw219 : tw (mQ 219).2.2.1 = some (.code (yM 219) (bM 219) (mL 219) (rM 219)) := rfl
set_option maxRecDepth 100000 in
theorem cw220 : tw (mQ 220).2.2.1 = some (.code (yM 220) (bM 220) (mL 220) (rM 220)) := rfl
set_option maxRecDepth 100000 in
theorem cw221 : tw (mQ 221).2.2.1 = some (.code (yM 221) (bM 221) (mL 221) (rM 221)) := rfl
set_option maxRecDepth 100000 in
theorem cw222 : tw (mQ 222).2.2.1 = some (.code (yM 222) (bM 222) (mL 222) (rM 222)) := rfl
set_option maxRecDepth 100000 in
theorem cw223 : tw (mQ 223).2.2.1 = some (.code (yM 223) (bM 223) (mL 223) (rM 223)) := rfl
set_option maxRecDepth 100000 in
theorem cw224 : tw (mQ 224).2.2.1 = some (.code (yM 224) (bM 224) (mL 224) (rM 224)) := rfl
set_option maxRecDepth 100000 in
theorem cw225 : tw (mQ 225).2.2.1 = some (.code (yM 225) (bM 225) (mL 225) (rM 225)) := rfl
set_option maxRecDepth 100000 in
theorem cw226 : tw (mQ 226).2.2.1 = some (.code (yM 226) (bM 226) (mL 226) (rM 226)) := rfl
set_option maxRecDepth 100000 in
theorem cw227 : tw (mQ 227).2.2.1 = some (.code (yM 227) (bM 227) (mL 227) (rM 227)) := rfl
set_option maxRecDepth 100000 in
theorem cw228 : tw (mQ 228).2.2.1 = some (.code (yM 228) (bM 228) (mL 228) (rM 228)) := rfl
set_option maxRecDepth 100000 in
theorem cw229 : tw (mQ 229).2.2.1 = some (.code (yM 229) (bM 229) (mL 229) (rM 229)) := rfl
set_option maxRecDepth 100000 in
theorem cw230 : tw (mQ 230).2.2.1 = some (.code (yM 230) (bM 230) (mL 230) (rM 230)) := rfl
set_option maxRecDepth 100000 in
theorem cw231 : tw (mQ 231).2.2.1 = some (.code (yM 231) (bM 231) (mL 231) (rM 231)) := rfl
theorem cw_all : ∀ m, 1 ≤ m → m < 232 → tw (mQ m).2.2.1 = some (.code (yM m) (bM m) (mL m) (rM m)) := by
  intro m h1 h2
  by_cases h : m < 116
  · by_cases h : m < 58
    · by_cases h : m < 29
      · by_cases h : m < 15
        · by_cases h : m < 8
          · by_cases h : m < 4
            · by_cases h : m < 2
              · obtain rfl : m = 1 := by omega
                exact cw1
              · by_cases h : m < 3
                · obtain rfl : m = 2 := by omega
                  exact cw2
                · obtain rfl : m = 3 := by omega
                  exact cw3
            · by_cases h : m < 6
              · by_cases h : m < 5
                · obtain rfl : m = 4 := by omega
                  exact cw4
                · obtain rfl : m = 5 := by omega
                  exact cw5
              · by_cases h : m < 7
                · obtain rfl : m = 6 := by omega
                  exact cw6
                · obtain rfl : m = 7 := by omega
                  exact cw7
          · by_cases h : m < 11
            · by_cases h : m < 9
              · obtain rfl : m = 8 := by omega
                exact cw8
              · by_cases h : m < 10
                · obtain rfl : m = 9 := by omega
                  exact cw9
                · obtain rfl : m = 10 := by omega
                  exact cw10
            · by_cases h : m < 13
              · by_cases h : m < 12
                · obtain rfl : m = 11 := by omega
                  exact cw11
                · obtain rfl : m = 12 := by omega
                  exact cw12
              · by_cases h : m < 14
                · obtain rfl : m = 13 := by omega
                  exact cw13
                · obtain rfl : m = 14 := by omega
                  exact cw14
        · by_cases h : m < 22
          · by_cases h : m < 18
            · by_cases h : m < 16
              · obtain rfl : m = 15 := by omega
                exact cw15
              · by_cases h : m < 17
                · obtain rfl : m = 16 := by omega
                  exact cw16
                · obtain rfl : m = 17 := by omega
                  exact cw17
            · by_cases h : m < 20
              · by_cases h : m < 19
                · obtain rfl : m = 18 := by omega
                  exact cw18
                · obtain rfl : m = 19 := by omega
                  exact cw19
              · by_cases h : m < 21
                · obtain rfl : m = 20 := by omega
                  exact cw20
                · obtain rfl : m = 21 := by omega
                  exact cw21
          · by_cases h : m < 25
            · by_cases h : m < 23
              · obtain rfl : m = 22 := by omega
                exact cw22
              · by_cases h : m < 24
                · obtain rfl : m = 23 := by omega
                  exact cw23
                · obtain rfl : m = 24 := by omega
                  exact cw24
            · by_cases h : m < 27
              · by_cases h : m < 26
                · obtain rfl : m = 25 := by omega
                  exact cw25
                · obtain rfl : m = 26 := by omega
                  exact cw26
              · by_cases h : m < 28
                · obtain rfl : m = 27 := by omega
                  exact cw27
                · obtain rfl : m = 28 := by omega
                  exact cw28
      · by_cases h : m < 43
        · by_cases h : m < 36
          · by_cases h : m < 32
            · by_cases h : m < 30
              · obtain rfl : m = 29 := by omega
                exact cw29
              · by_cases h : m < 31
                · obtain rfl : m = 30 := by omega
                  exact cw30
                · obtain rfl : m = 31 := by omega
                  exact cw31
            · by_cases h : m < 34
              · by_cases h : m < 33
                · obtain rfl : m = 32 := by omega
                  exact cw32
                · obtain rfl : m = 33 := by omega
                  exact cw33
              · by_cases h : m < 35
                · obtain rfl : m = 34 := by omega
                  exact cw34
                · obtain rfl : m = 35 := by omega
                  exact cw35
          · by_cases h : m < 39
            · by_cases h : m < 37
              · obtain rfl : m = 36 := by omega
                exact cw36
              · by_cases h : m < 38
                · obtain rfl : m = 37 := by omega
                  exact cw37
                · obtain rfl : m = 38 := by omega
                  exact cw38
            · by_cases h : m < 41
              · by_cases h : m < 40
                · obtain rfl : m = 39 := by omega
                  exact cw39
                · obtain rfl : m = 40 := by omega
                  exact cw40
              · by_cases h : m < 42
                · obtain rfl : m = 41 := by omega
                  exact cw41
                · obtain rfl : m = 42 := by omega
                  exact cw42
        · by_cases h : m < 50
          · by_cases h : m < 46
            · by_cases h : m < 44
              · obtain rfl : m = 43 := by omega
                exact cw43
              · by_cases h : m < 45
                · obtain rfl : m = 44 := by omega
                  exact cw44
                · obtain rfl : m = 45 := by omega
                  exact cw45
            · by_cases h : m < 48
              · by_cases h : m < 47
                · obtain rfl : m = 46 := by omega
                  exact cw46
                · obtain rfl : m = 47 := by omega
                  exact cw47
              · by_cases h : m < 49
                · obtain rfl : m = 48 := by omega
                  exact cw48
                · obtain rfl : m = 49 := by omega
                  exact cw49
          · by_cases h : m < 54
            · by_cases h : m < 52
              · by_cases h : m < 51
                · obtain rfl : m = 50 := by omega
                  exact cw50
                · obtain rfl : m = 51 := by omega
                  exact cw51
              · by_cases h : m < 53
                · obtain rfl : m = 52 := by omega
                  exact cw52
                · obtain rfl : m = 53 := by omega
                  exact cw53
            · by_cases h : m < 56
              · by_cases h : m < 55
                · obtain rfl : m = 54 := by omega
                  exact cw54
                · obtain rfl : m = 55 := by omega
                  exact cw55
              · by_cases h : m < 57
                · obtain rfl : m = 56 := by omega
                  exact cw56
                · obtain rfl : m = 57 := by omega
                  exact cw57
    · by_cases h : m < 87
      · by_cases h : m < 72
        · by_cases h : m < 65
          · by_cases h : m < 61
            · by_cases h : m < 59
              · obtain rfl : m = 58 := by omega
                exact cw58
              · by_cases h : m < 60
                · obtain rfl : m = 59 := by omega
                  exact cw59
                · obtain rfl : m = 60 := by omega
                  exact cw60
            · by_cases h : m < 63
              · by_cases h : m < 62
                · obtain rfl : m = 61 := by omega
                  exact cw61
                · obtain rfl : m = 62 := by omega
                  exact cw62
              · by_cases h : m < 64
                · obtain rfl : m = 63 := by omega
                  exact cw63
                · obtain rfl : m = 64 := by omega
                  exact cw64
          · by_cases h : m < 68
            · by_cases h : m < 66
              · obtain rfl : m = 65 := by omega
                exact cw65
              · by_cases h : m < 67
                · obtain rfl : m = 66 := by omega
                  exact cw66
                · obtain rfl : m = 67 := by omega
                  exact cw67
            · by_cases h : m < 70
              · by_cases h : m < 69
                · obtain rfl : m = 68 := by omega
                  exact cw68
                · obtain rfl : m = 69 := by omega
                  exact cw69
              · by_cases h : m < 71
                · obtain rfl : m = 70 := by omega
                  exact cw70
                · obtain rfl : m = 71 := by omega
                  exact cw71
        · by_cases h : m < 79
          · by_cases h : m < 75
            · by_cases h : m < 73
              · obtain rfl : m = 72 := by omega
                exact cw72
              · by_cases h : m < 74
                · obtain rfl : m = 73 := by omega
                  exact cw73
                · obtain rfl : m = 74 := by omega
                  exact cw74
            · by_cases h : m < 77
              · by_cases h : m < 76
                · obtain rfl : m = 75 := by omega
                  exact cw75
                · obtain rfl : m = 76 := by omega
                  exact cw76
              · by_cases h : m < 78
                · obtain rfl : m = 77 := by omega
                  exact cw77
                · obtain rfl : m = 78 := by omega
                  exact cw78
          · by_cases h : m < 83
            · by_cases h : m < 81
              · by_cases h : m < 80
                · obtain rfl : m = 79 := by omega
                  exact cw79
                · obtain rfl : m = 80 := by omega
                  exact cw80
              · by_cases h : m < 82
                · obtain rfl : m = 81 := by omega
                  exact cw81
                · obtain rfl : m = 82 := by omega
                  exact cw82
            · by_cases h : m < 85
              · by_cases h : m < 84
                · obtain rfl : m = 83 := by omega
                  exact cw83
                · obtain rfl : m = 84 := by omega
                  exact cw84
              · by_cases h : m < 86
                · obtain rfl : m = 85 := by omega
                  exact cw85
                · obtain rfl : m = 86 := by omega
                  exact cw86
      · by_cases h : m < 101
        · by_cases h : m < 94
          · by_cases h : m < 90
            · by_cases h : m < 88
              · obtain rfl : m = 87 := by omega
                exact cw87
              · by_cases h : m < 89
                · obtain rfl : m = 88 := by omega
                  exact cw88
                · obtain rfl : m = 89 := by omega
                  exact cw89
            · by_cases h : m < 92
              · by_cases h : m < 91
                · obtain rfl : m = 90 := by omega
                  exact cw90
                · obtain rfl : m = 91 := by omega
                  exact cw91
              · by_cases h : m < 93
                · obtain rfl : m = 92 := by omega
                  exact cw92
                · obtain rfl : m = 93 := by omega
                  exact cw93
          · by_cases h : m < 97
            · by_cases h : m < 95
              · obtain rfl : m = 94 := by omega
                exact cw94
              · by_cases h : m < 96
                · obtain rfl : m = 95 := by omega
                  exact cw95
                · obtain rfl : m = 96 := by omega
                  exact cw96
            · by_cases h : m < 99
              · by_cases h : m < 98
                · obtain rfl : m = 97 := by omega
                  exact cw97
                · obtain rfl : m = 98 := by omega
                  exact cw98
              · by_cases h : m < 100
                · obtain rfl : m = 99 := by omega
                  exact cw99
                · obtain rfl : m = 100 := by omega
                  exact cw100
        · by_cases h : m < 108
          · by_cases h : m < 104
            · by_cases h : m < 102
              · obtain rfl : m = 101 := by omega
                exact cw101
              · by_cases h : m < 103
                · obtain rfl : m = 102 := by omega
                  exact cw102
                · obtain rfl : m = 103 := by omega
                  exact cw103
            · by_cases h : m < 106
              · by_cases h : m < 105
                · obtain rfl : m = 104 := by omega
                  exact cw104
                · obtain rfl : m = 105 := by omega
                  exact cw105
              · by_cases h : m < 107
                · obtain rfl : m = 106 := by omega
                  exact cw106
                · obtain rfl : m = 107 := by omega
                  exact cw107
          · by_cases h : m < 112
            · by_cases h : m < 110
              · by_cases h : m < 109
                · obtain rfl : m = 108 := by omega
                  exact cw108
                · obtain rfl : m = 109 := by omega
                  exact cw109
              · by_cases h : m < 111
                · obtain rfl : m = 110 := by omega
                  exact cw110
                · obtain rfl : m = 111 := by omega
                  exact cw111
            · by_cases h : m < 114
              · by_cases h : m < 113
                · obtain rfl : m = 112 := by omega
                  exact cw112
                · obtain rfl : m = 113 := by omega
                  exact cw113
              · by_cases h : m < 115
                · obtain rfl : m = 114 := by omega
                  exact cw114
                · obtain rfl : m = 115 := by omega
                  exact cw115
  · by_cases h : m < 174
    · by_cases h : m < 145
      · by_cases h : m < 130
        · by_cases h : m < 123
          · by_cases h : m < 119
            · by_cases h : m < 117
              · obtain rfl : m = 116 := by omega
                exact cw116
              · by_cases h : m < 118
                · obtain rfl : m = 117 := by omega
                  exact cw117
                · obtain rfl : m = 118 := by omega
                  exact cw118
            · by_cases h : m < 121
              · by_cases h : m < 120
                · obtain rfl : m = 119 := by omega
                  exact cw119
                · obtain rfl : m = 120 := by omega
                  exact cw120
              · by_cases h : m < 122
                · obtain rfl : m = 121 := by omega
                  exact cw121
                · obtain rfl : m = 122 := by omega
                  exact cw122
          · by_cases h : m < 126
            · by_cases h : m < 124
              · obtain rfl : m = 123 := by omega
                exact cw123
              · by_cases h : m < 125
                · obtain rfl : m = 124 := by omega
                  exact cw124
                · obtain rfl : m = 125 := by omega
                  exact cw125
            · by_cases h : m < 128
              · by_cases h : m < 127
                · obtain rfl : m = 126 := by omega
                  exact cw126
                · obtain rfl : m = 127 := by omega
                  exact cw127
              · by_cases h : m < 129
                · obtain rfl : m = 128 := by omega
                  exact cw128
                · obtain rfl : m = 129 := by omega
                  exact cw129
        · by_cases h : m < 137
          · by_cases h : m < 133
            · by_cases h : m < 131
              · obtain rfl : m = 130 := by omega
                exact cw130
              · by_cases h : m < 132
                · obtain rfl : m = 131 := by omega
                  exact cw131
                · obtain rfl : m = 132 := by omega
                  exact cw132
            · by_cases h : m < 135
              · by_cases h : m < 134
                · obtain rfl : m = 133 := by omega
                  exact cw133
                · obtain rfl : m = 134 := by omega
                  exact cw134
              · by_cases h : m < 136
                · obtain rfl : m = 135 := by omega
                  exact cw135
                · obtain rfl : m = 136 := by omega
                  exact cw136
          · by_cases h : m < 141
            · by_cases h : m < 139
              · by_cases h : m < 138
                · obtain rfl : m = 137 := by omega
                  exact cw137
                · obtain rfl : m = 138 := by omega
                  exact cw138
              · by_cases h : m < 140
                · obtain rfl : m = 139 := by omega
                  exact cw139
                · obtain rfl : m = 140 := by omega
                  exact cw140
            · by_cases h : m < 143
              · by_cases h : m < 142
                · obtain rfl : m = 141 := by omega
                  exact cw141
                · obtain rfl : m = 142 := by omega
                  exact cw142
              · by_cases h : m < 144
                · obtain rfl : m = 143 := by omega
                  exact cw143
                · obtain rfl : m = 144 := by omega
                  exact cw144
      · by_cases h : m < 159
        · by_cases h : m < 152
          · by_cases h : m < 148
            · by_cases h : m < 146
              · obtain rfl : m = 145 := by omega
                exact cw145
              · by_cases h : m < 147
                · obtain rfl : m = 146 := by omega
                  exact cw146
                · obtain rfl : m = 147 := by omega
                  exact cw147
            · by_cases h : m < 150
              · by_cases h : m < 149
                · obtain rfl : m = 148 := by omega
                  exact cw148
                · obtain rfl : m = 149 := by omega
                  exact cw149
              · by_cases h : m < 151
                · obtain rfl : m = 150 := by omega
                  exact cw150
                · obtain rfl : m = 151 := by omega
                  exact cw151
          · by_cases h : m < 155
            · by_cases h : m < 153
              · obtain rfl : m = 152 := by omega
                exact cw152
              · by_cases h : m < 154
                · obtain rfl : m = 153 := by omega
                  exact cw153
                · obtain rfl : m = 154 := by omega
                  exact cw154
            · by_cases h : m < 157
              · by_cases h : m < 156
                · obtain rfl : m = 155 := by omega
                  exact cw155
                · obtain rfl : m = 156 := by omega
                  exact cw156
              · by_cases h : m < 158
                · obtain rfl : m = 157 := by omega
                  exact cw157
                · obtain rfl : m = 158 := by omega
                  exact cw158
        · by_cases h : m < 166
          · by_cases h : m < 162
            · by_cases h : m < 160
              · obtain rfl : m = 159 := by omega
                exact cw159
              · by_cases h : m < 161
                · obtain rfl : m = 160 := by omega
                  exact cw160
                · obtain rfl : m = 161 := by omega
                  exact cw161
            · by_cases h : m < 164
              · by_cases h : m < 163
                · obtain rfl : m = 162 := by omega
                  exact cw162
                · obtain rfl : m = 163 := by omega
                  exact cw163
              · by_cases h : m < 165
                · obtain rfl : m = 164 := by omega
                  exact cw164
                · obtain rfl : m = 165 := by omega
                  exact cw165
          · by_cases h : m < 170
            · by_cases h : m < 168
              · by_cases h : m < 167
                · obtain rfl : m = 166 := by omega
                  exact cw166
                · obtain rfl : m = 167 := by omega
                  exact cw167
              · by_cases h : m < 169
                · obtain rfl : m = 168 := by omega
                  exact cw168
                · obtain rfl : m = 169 := by omega
                  exact cw169
            · by_cases h : m < 172
              · by_cases h : m < 171
                · obtain rfl : m = 170 := by omega
                  exact cw170
                · obtain rfl : m = 171 := by omega
                  exact cw171
              · by_cases h : m < 173
                · obtain rfl : m = 172 := by omega
                  exact cw172
                · obtain rfl : m = 173 := by omega
                  exact cw173
    · by_cases h : m < 203
      · by_cases h : m < 188
        · by_cases h : m < 181
          · by_cases h : m < 177
            · by_cases h : m < 175
              · obtain rfl : m = 174 := by omega
                exact cw174
              · by_cases h : m < 176
                · obtain rfl : m = 175 := by omega
                  exact cw175
                · obtain rfl : m = 176 := by omega
                  exact cw176
            · by_cases h : m < 179
              · by_cases h : m < 178
                · obtain rfl : m = 177 := by omega
                  exact cw177
                · obtain rfl : m = 178 := by omega
                  exact cw178
              · by_cases h : m < 180
                · obtain rfl : m = 179 := by omega
                  exact cw179
                · obtain rfl : m = 180 := by omega
                  exact cw180
          · by_cases h : m < 184
            · by_cases h : m < 182
              · obtain rfl : m = 181 := by omega
                exact cw181
              · by_cases h : m < 183
                · obtain rfl : m = 182 := by omega
                  exact cw182
                · obtain rfl : m = 183 := by omega
                  exact cw183
            · by_cases h : m < 186
              · by_cases h : m < 185
                · obtain rfl : m = 184 := by omega
                  exact cw184
                · obtain rfl : m = 185 := by omega
                  exact cw185
              · by_cases h : m < 187
                · obtain rfl : m = 186 := by omega
                  exact cw186
                · obtain rfl : m = 187 := by omega
                  exact cw187
        · by_cases h : m < 195
          · by_cases h : m < 191
            · by_cases h : m < 189
              · obtain rfl : m = 188 := by omega
                exact cw188
              · by_cases h : m < 190
                · obtain rfl : m = 189 := by omega
                  exact cw189
                · obtain rfl : m = 190 := by omega
                  exact cw190
            · by_cases h : m < 193
              · by_cases h : m < 192
                · obtain rfl : m = 191 := by omega
                  exact cw191
                · obtain rfl : m = 192 := by omega
                  exact cw192
              · by_cases h : m < 194
                · obtain rfl : m = 193 := by omega
                  exact cw193
                · obtain rfl : m = 194 := by omega
                  exact cw194
          · by_cases h : m < 199
            · by_cases h : m < 197
              · by_cases h : m < 196
                · obtain rfl : m = 195 := by omega
                  exact cw195
                · obtain rfl : m = 196 := by omega
                  exact cw196
              · by_cases h : m < 198
                · obtain rfl : m = 197 := by omega
                  exact cw197
                · obtain rfl : m = 198 := by omega
                  exact cw198
            · by_cases h : m < 201
              · by_cases h : m < 200
                · obtain rfl : m = 199 := by omega
                  exact cw199
                · obtain rfl : m = 200 := by omega
                  exact cw200
              · by_cases h : m < 202
                · obtain rfl : m = 201 := by omega
                  exact cw201
                · obtain rfl : m = 202 := by omega
                  exact cw202
      · by_cases h : m < 217
        · by_cases h : m < 210
          · by_cases h : m < 206
            · by_cases h : m < 204
              · obtain rfl : m = 203 := by omega
                exact cw203
              · by_cases h : m < 205
                · obtain rfl : m = 204 := by omega
                  exact cw204
                · obtain rfl : m = 205 := by omega
                  exact cw205
            · by_cases h : m < 208
              · by_cases h : m < 207
                · obtain rfl : m = 206 := by omega
                  exact cw206
                · obtain rfl : m = 207 := by omega
                  exact cw207
              · by_cases h : m < 209
                · obtain rfl : m = 208 := by omega
                  exact cw208
                · obtain rfl : m = 209 := by omega
                  exact cw209
          · by_cases h : m < 213
            · by_cases h : m < 211
              · obtain rfl : m = 210 := by omega
                exact cw210
              · by_cases h : m < 212
                · obtain rfl : m = 211 := by omega
                  exact cw211
                · obtain rfl : m = 212 := by omega
                  exact cw212
            · by_cases h : m < 215
              · by_cases h : m < 214
                · obtain rfl : m = 213 := by omega
                  exact cw213
                · obtain rfl : m = 214 := by omega
                  exact cw214
              · by_cases h : m < 216
                · obtain rfl : m = 215 := by omega
                  exact cw215
                · obtain rfl : m = 216 := by omega
                  exact cw216
        · by_cases h : m < 224
          · by_cases h : m < 220
            · by_cases h : m < 218
              · obtain rfl : m = 217 := by omega
                exact cw217
              · by_cases h : m < 219
                · obtain rfl : m = 218 := by omega
                  exact cw218
                · obtain rfl : m = 219 := by omega
                  exact cw219
            · by_cases h : m < 222
              · by_cases h : m < 221
                · obtain rfl : m = 220 := by omega
                  exact cw220
                · obtain rfl : m = 221 := by omega
                  exact cw221
              · by_cases h : m < 223
                · obtain rfl : m = 222 := by omega
                  exact cw222
                · obtain rfl : m = 223 := by omega
                  exact cw223
          · by_cases h : m < 228
            · by_cases h : m < 226
              · by_cases h : m < 225
                · obtain rfl : m = 224 := by omega
                  exact cw224
                · obtain rfl : m = 225 := by omega
                  exact cw225
              · by_cases h : m < 227
                · obtain rfl : m = 226 := by omega
                  exact cw226
                · obtain rfl : m = 227 := by omega
                  exact cw227
            · by_cases h : m < 230
              · by_cases h : m < 229
                · obtain rfl : m = 228 := by omega
                  exact cw228
                · obtain rfl : m = 229 := by omega
                  exact cw229
              · by_cases h : m < 231
                · obtain rfl : m = 230 := by omega
                  exact cw230
                · obtain rfl : m = 231 := by omega
                  exact cw231
set_option maxRecDepth 100000 in
theorem okmt_0 : (List.range 33).all (fun i => okMt (0 + i + 1)) = true := by decide +kernel
set_option maxRecDepth 100000 in
theorem okmt_33 : (List.range 33).all (fun i => okMt (33 + i + 1)) = true := by decide +kernel
set_option maxRecDepth 100000 in
theorem okmt_66 : (List.range 33).all (fun i => okMt (66 + i + 1)) = true := by decide +kernel
set_option maxRecDepth 100000 in
theorem okmt_99 : (List.range 33).all (fun i => okMt (99 + i + 1)) = true := by decide +kernel
set_option maxRecDepth 100000 in
theorem okmt_132 : (List.range 33).all (fun i => okMt (132 + i + 1)) = true := by decide +kernel
set_option maxRecDepth 100000 in
theorem okmt_165 : (List.range 33).all (fun i => okMt (165 + i + 1)) = true := by decide +kernel
set_option maxRecDepth 100000 in
theorem okmt_198 : (List.range 33).all (fun i => okMt (198 + i + 1)) = true := by decide +kernel
theorem okmt_all : (List.range 231).all (fun i => okMt (i + 1)) = true := by
  rw [List.all_eq_true]
  intro m hm
  have hm := List.mem_range.mp hm
  by_cases h0 : m < 33
  · have := List.all_eq_true.mp okmt_0 (m - 0) (List.mem_range.mpr (by omega))
    rw [show 0 + (m - 0) + 1 = m + 1 by omega] at this
    exact this
  by_cases h33 : m < 66
  · have := List.all_eq_true.mp okmt_33 (m - 33) (List.mem_range.mpr (by omega))
    rw [show 33 + (m - 33) + 1 = m + 1 by omega] at this
    exact this
  by_cases h66 : m < 99
  · have := List.all_eq_true.mp okmt_66 (m - 66) (List.mem_range.mpr (by omega))
    rw [show 66 + (m - 66) + 1 = m + 1 by omega] at this
    exact this
  by_cases h99 : m < 132
  · have := List.all_eq_true.mp okmt_99 (m - 99) (List.mem_range.mpr (by omega))
    rw [show 99 + (m - 99) + 1 = m + 1 by omega] at this
    exact this
  by_cases h132 : m < 165
  · have := List.all_eq_true.mp okmt_132 (m - 132) (List.mem_range.mpr (by omega))
    rw [show 132 + (m - 132) + 1 = m + 1 by omega] at this
    exact this
  by_cases h165 : m < 198
  · have := List.all_eq_true.mp okmt_165 (m - 165) (List.mem_range.mpr (by omega))
    rw [show 165 + (m - 165) + 1 = m + 1 by omega] at this
    exact this
  by_cases h198 : m < 231
  · have := List.all_eq_true.mp okmt_198 (m - 198) (List.mem_range.mpr (by omega))
    rw [show 198 + (m - 198) + 1 = m + 1 by omega] at this
    exact this
  omega
theorem oka : OKA := oka_of okb_all
theorem okm : OKM := okm_of okmt_all cw_all
