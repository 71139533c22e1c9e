/-! the code of each method is among the words of the start -/
set_option maxRecDepth 1000000 in
theorem rb_wC_p0 : lw_tbl[51]? = some (.code (rb_y 0) (rb_b 0) (rb_ml 0) (rb_rt 0)) := rfl
set_option maxRecDepth 1000000 in
theorem rb_wC_p1 : lw_tbl[353]? = some (.code (rb_y 1) (rb_b 1) (rb_ml 1) (rb_rt 1)) := rfl
set_option maxRecDepth 1000000 in
theorem rb_wC_p2 : lw_tbl[385]? = some (.code (rb_y 2) (rb_b 2) (rb_ml 2) (rb_rt 2)) := rfl
set_option maxRecDepth 1000000 in
theorem rb_wC_p3 : lw_tbl[389]? = some (.code (rb_y 3) (rb_b 3) (rb_ml 3) (rb_rt 3)) := rfl
set_option maxRecDepth 1000000 in
theorem rb_wC_p4 : lw_tbl[413]? = some (.code (rb_y 4) (rb_b 4) (rb_ml 4) (rb_rt 4)) := rfl
set_option maxRecDepth 1000000 in
theorem rb_wC_p5 : lw_tbl[418]? = some (.code (rb_y 5) (rb_b 5) (rb_ml 5) (rb_rt 5)) := rfl
set_option maxRecDepth 1000000 in
theorem rb_wC_p6 : lw_tbl[435]? = some (.code (rb_y 6) (rb_b 6) (rb_ml 6) (rb_rt 6)) := rfl
set_option maxRecDepth 1000000 in
theorem rb_wC_p7 : lw_tbl[443]? = some (.code (rb_y 7) (rb_b 7) (rb_ml 7) (rb_rt 7)) := rfl
set_option maxRecDepth 1000000 in
theorem rb_wC_p8 : lw_tbl[447]? = some (.code (rb_y 8) (rb_b 8) (rb_ml 8) (rb_rt 8)) := rfl
set_option maxRecDepth 1000000 in
theorem rb_wC_p9 : lw_tbl[459]? = some (.code (rb_y 9) (rb_b 9) (rb_ml 9) (rb_rt 9)) := rfl
set_option maxRecDepth 1000000 in
theorem rb_wC_p10 : lw_tbl[467]? = some (.code (rb_y 10) (rb_b 10) (rb_ml 10) (rb_rt 10)) := rfl
set_option maxRecDepth 1000000 in
theorem rb_wC_p11 : lw_tbl[480]? = some (.code (rb_y 11) (rb_b 11) (rb_ml 11) (rb_rt 11)) := rfl
set_option maxRecDepth 1000000 in
theorem rb_wC_p12 : lw_tbl[512]? = some (.code (rb_y 12) (rb_b 12) (rb_ml 12) (rb_rt 12)) := rfl
set_option maxRecDepth 1000000 in
theorem rb_wC_p13 : lw_tbl[655]? = some (.code (rb_y 13) (rb_b 13) (rb_ml 13) (rb_rt 13)) := rfl
set_option maxRecDepth 1000000 in
theorem rb_wC_p14 : lw_tbl[663]? = some (.code (rb_y 14) (rb_b 14) (rb_ml 14) (rb_rt 14)) := rfl
set_option maxRecDepth 1000000 in
theorem rb_wC_p15 : lw_tbl[667]? = some (.code (rb_y 15) (rb_b 15) (rb_ml 15) (rb_rt 15)) := rfl
set_option maxRecDepth 1000000 in
theorem rb_wC_p16 : lw_tbl[671]? = some (.code (rb_y 16) (rb_b 16) (rb_ml 16) (rb_rt 16)) := rfl
set_option maxRecDepth 1000000 in
theorem rb_wC_p17 : lw_tbl[675]? = some (.code (rb_y 17) (rb_b 17) (rb_ml 17) (rb_rt 17)) := rfl
set_option maxRecDepth 1000000 in
theorem rb_wC_p18 : lw_tbl[679]? = some (.code (rb_y 18) (rb_b 18) (rb_ml 18) (rb_rt 18)) := rfl
set_option maxRecDepth 1000000 in
theorem rb_wC_p19 : lw_tbl[360]? = some (.code (rb_y 19) (rb_b 19) (rb_ml 19) (rb_rt 19)) := rfl
set_option maxRecDepth 1000000 in
theorem rb_wC_p20 : lw_tbl[357]? = some (.code (rb_y 20) (rb_b 20) (rb_ml 20) (rb_rt 20)) := rfl
set_option maxRecDepth 1000000 in
theorem rb_wC_p21 : lw_tbl[463]? = some (.code (rb_y 21) (rb_b 21) (rb_ml 21) (rb_rt 21)) := rfl
set_option maxRecDepth 1000000 in
theorem rb_wC_p22 : lw_tbl[368]? = some (.code (rb_y 22) (rb_b 22) (rb_ml 22) (rb_rt 22)) := rfl
set_option maxRecDepth 1000000 in
theorem rb_wC_p23 : lw_tbl[492]? = some (.code (rb_y 23) (rb_b 23) (rb_ml 23) (rb_rt 23)) := rfl
set_option maxRecDepth 1000000 in
theorem rb_wC_p24 : lw_tbl[595]? = some (.code (rb_y 24) (rb_b 24) (rb_ml 24) (rb_rt 24)) := rfl
set_option maxRecDepth 1000000 in
theorem rb_wC_p25 : lw_tbl[439]? = some (.code (rb_y 25) (rb_b 25) (rb_ml 25) (rb_rt 25)) := rfl
set_option maxRecDepth 1000000 in
theorem rb_wC_p26 : lw_tbl[409]? = some (.code (rb_y 26) (rb_b 26) (rb_ml 26) (rb_rt 26)) := rfl
set_option maxRecDepth 1000000 in
theorem rb_wC_p27 : lw_tbl[405]? = some (.code (rb_y 27) (rb_b 27) (rb_ml 27) (rb_rt 27)) := rfl
set_option maxRecDepth 1000000 in
theorem rb_wC_p28 : lw_tbl[516]? = some (.code (rb_y 28) (rb_b 28) (rb_ml 28) (rb_rt 28)) := rfl
set_option maxRecDepth 1000000 in
theorem rb_wC_p29 : lw_tbl[570]? = some (.code (rb_y 29) (rb_b 29) (rb_ml 29) (rb_rt 29)) := rfl
set_option maxRecDepth 1000000 in
theorem rb_wC_p30 : lw_tbl[587]? = some (.code (rb_y 30) (rb_b 30) (rb_ml 30) (rb_rt 30)) := rfl
set_option maxRecDepth 1000000 in
theorem rb_wC_p31 : lw_tbl[606]? = some (.code (rb_y 31) (rb_b 31) (rb_ml 31) (rb_rt 31)) := rfl
set_option maxRecDepth 1000000 in
theorem rb_wC_p32 : lw_tbl[591]? = some (.code (rb_y 32) (rb_b 32) (rb_ml 32) (rb_rt 32)) := rfl
set_option maxRecDepth 1000000 in
theorem rb_wC_p33 : lw_tbl[615]? = some (.code (rb_y 33) (rb_b 33) (rb_ml 33) (rb_rt 33)) := rfl
set_option maxRecDepth 1000000 in
theorem rb_wC_p34 : lw_tbl[619]? = some (.code (rb_y 34) (rb_b 34) (rb_ml 34) (rb_rt 34)) := rfl
set_option maxRecDepth 1000000 in
theorem rb_wC_p35 : lw_tbl[623]? = some (.code (rb_y 35) (rb_b 35) (rb_ml 35) (rb_rt 35)) := rfl
set_option maxRecDepth 1000000 in
theorem rb_wC_p36 : lw_tbl[500]? = some (.code (rb_y 36) (rb_b 36) (rb_ml 36) (rb_rt 36)) := rfl
set_option maxRecDepth 1000000 in
theorem rb_wC_p37 : lw_tbl[651]? = some (.code (rb_y 37) (rb_b 37) (rb_ml 37) (rb_rt 37)) := rfl
set_option maxRecDepth 1000000 in
theorem rb_wC_p38 : lw_tbl[609]? = some (.code (rb_y 38) (rb_b 38) (rb_ml 38) (rb_rt 38)) := rfl
set_option maxRecDepth 1000000 in
theorem rb_wC_p39 : lw_tbl[612]? = some (.code (rb_y 39) (rb_b 39) (rb_ml 39) (rb_rt 39)) := rfl
set_option maxRecDepth 1000000 in
theorem rb_wC_p40 : lw_tbl[598]? = some (.code (rb_y 40) (rb_b 40) (rb_ml 40) (rb_rt 40)) := rfl
set_option maxRecDepth 1000000 in
theorem rb_wC_p41 : lw_tbl[602]? = some (.code (rb_y 41) (rb_b 41) (rb_ml 41) (rb_rt 41)) := rfl
set_option maxRecDepth 1000000 in
theorem rb_wC_p42 : lw_tbl[504]? = some (.code (rb_y 42) (rb_b 42) (rb_ml 42) (rb_rt 42)) := rfl
set_option maxRecDepth 1000000 in
theorem rb_wC_p43 : lw_tbl[684]? = some (.code (rb_y 43) (rb_b 43) (rb_ml 43) (rb_rt 43)) := rfl
set_option maxRecDepth 1000000 in
theorem rb_wC_p44 : lw_tbl[875]? = some (.code (rb_y 44) (rb_b 44) (rb_ml 44) (rb_rt 44)) := rfl
set_option maxRecDepth 1000000 in
theorem rb_wC_p45 : lw_tbl[941]? = some (.code (rb_y 45) (rb_b 45) (rb_ml 45) (rb_rt 45)) := rfl
set_option maxRecDepth 1000000 in
theorem rb_wC_p46 : lw_tbl[944]? = some (.code (rb_y 46) (rb_b 46) (rb_ml 46) (rb_rt 46)) := rfl
set_option maxRecDepth 1000000 in
theorem rb_wC_p47 : lw_tbl[948]? = some (.code (rb_y 47) (rb_b 47) (rb_ml 47) (rb_rt 47)) := rfl
set_option maxRecDepth 1000000 in
theorem rb_wC_p48 : lw_tbl[864]? = some (.code (rb_y 48) (rb_b 48) (rb_ml 48) (rb_rt 48)) := rfl
set_option maxRecDepth 1000000 in
theorem rb_wC_p49 : lw_tbl[872]? = some (.code (rb_y 49) (rb_b 49) (rb_ml 49) (rb_rt 49)) := rfl
set_option maxRecDepth 1000000 in
theorem rb_wC_p50 : lw_tbl[879]? = some (.code (rb_y 50) (rb_b 50) (rb_ml 50) (rb_rt 50)) := rfl
set_option maxRecDepth 1000000 in
theorem rb_wC_p51 : lw_tbl[952]? = some (.code (rb_y 51) (rb_b 51) (rb_ml 51) (rb_rt 51)) := rfl
set_option maxRecDepth 1000000 in
theorem rb_wC_p52 : lw_tbl[910]? = some (.code (rb_y 52) (rb_b 52) (rb_ml 52) (rb_rt 52)) := rfl
set_option maxRecDepth 1000000 in
theorem rb_wC_p53 : lw_tbl[895]? = some (.code (rb_y 53) (rb_b 53) (rb_ml 53) (rb_rt 53)) := rfl
set_option maxRecDepth 1000000 in
theorem rb_wC_p54 : lw_tbl[914]? = some (.code (rb_y 54) (rb_b 54) (rb_ml 54) (rb_rt 54)) := rfl
set_option maxRecDepth 1000000 in
theorem rb_wC_p55 : lw_tbl[918]? = some (.code (rb_y 55) (rb_b 55) (rb_ml 55) (rb_rt 55)) := rfl
set_option maxRecDepth 1000000 in
theorem rb_wC_p56 : lw_tbl[891]? = some (.code (rb_y 56) (rb_b 56) (rb_ml 56) (rb_rt 56)) := rfl
set_option maxRecDepth 1000000 in
theorem rb_wC_p57 : lw_tbl[868]? = some (.code (rb_y 57) (rb_b 57) (rb_ml 57) (rb_rt 57)) := rfl
set_option maxRecDepth 1000000 in
theorem rb_wC_p58 : lw_tbl[903]? = some (.code (rb_y 58) (rb_b 58) (rb_ml 58) (rb_rt 58)) := rfl
set_option maxRecDepth 1000000 in
theorem rb_wC_p59 : lw_tbl[887]? = some (.code (rb_y 59) (rb_b 59) (rb_ml 59) (rb_rt 59)) := rfl
set_option maxRecDepth 1000000 in
theorem rb_wC_p60 : lw_tbl[883]? = some (.code (rb_y 60) (rb_b 60) (rb_ml 60) (rb_rt 60)) := rfl
set_option maxRecDepth 1000000 in
theorem rb_wC_p61 : lw_tbl[899]? = some (.code (rb_y 61) (rb_b 61) (rb_ml 61) (rb_rt 61)) := rfl
set_option maxRecDepth 1000000 in
theorem rb_wC_p62 : lw_tbl[860]? = some (.code (rb_y 62) (rb_b 62) (rb_ml 62) (rb_rt 62)) := rfl
set_option maxRecDepth 1000000 in
theorem rb_wC_p63 : lw_tbl[907]? = some (.code (rb_y 63) (rb_b 63) (rb_ml 63) (rb_rt 63)) := rfl
set_option maxRecDepth 1000000 in
theorem rb_wC_p64 : lw_tbl[926]? = some (.code (rb_y 64) (rb_b 64) (rb_ml 64) (rb_rt 64)) := rfl
set_option maxRecDepth 1000000 in
theorem rb_wC_p65 : lw_tbl[922]? = some (.code (rb_y 65) (rb_b 65) (rb_ml 65) (rb_rt 65)) := rfl
set_option maxRecDepth 1000000 in
theorem rb_wC_p66 : lw_tbl[930]? = some (.code (rb_y 66) (rb_b 66) (rb_ml 66) (rb_rt 66)) := rfl
set_option maxRecDepth 1000000 in
theorem rb_wC_p67 : lw_tbl[934]? = some (.code (rb_y 67) (rb_b 67) (rb_ml 67) (rb_rt 67)) := rfl
set_option maxRecDepth 1000000 in
theorem rb_wC_p68 : lw_tbl[856]? = some (.code (rb_y 68) (rb_b 68) (rb_ml 68) (rb_rt 68)) := rfl
set_option maxRecDepth 1000000 in
theorem rb_wC_p69 : lw_tbl[938]? = some (.code (rb_y 69) (rb_b 69) (rb_ml 69) (rb_rt 69)) := rfl
set_option maxRecDepth 1000000 in
theorem rb_wC_p70 : lw_tbl[956]? = some (.code (rb_y 70) (rb_b 70) (rb_ml 70) (rb_rt 70)) := rfl
set_option maxRecDepth 1000000 in
theorem rb_wC_p71 : lw_tbl[964]? = some (.code (rb_y 71) (rb_b 71) (rb_ml 71) (rb_rt 71)) := rfl
set_option maxRecDepth 1000000 in
theorem rb_wC_p72 : lw_tbl[960]? = some (.code (rb_y 72) (rb_b 72) (rb_ml 72) (rb_rt 72)) := rfl
set_option maxRecDepth 1000000 in
theorem rb_wC_p73 : lw_tbl[968]? = some (.code (rb_y 73) (rb_b 73) (rb_ml 73) (rb_rt 73)) := rfl
set_option maxRecDepth 1000000 in
theorem rb_wC_p74 : lw_tbl[972]? = some (.code (rb_y 74) (rb_b 74) (rb_ml 74) (rb_rt 74)) := rfl
set_option maxRecDepth 1000000 in
theorem rb_wC_p75 : lw_tbl[976]? = some (.code (rb_y 75) (rb_b 75) (rb_ml 75) (rb_rt 75)) := rfl
set_option maxRecDepth 1000000 in
theorem rb_wC_p76 : lw_tbl[980]? = some (.code (rb_y 76) (rb_b 76) (rb_ml 76) (rb_rt 76)) := rfl
set_option maxRecDepth 1000000 in
theorem rb_wC_p77 : lw_tbl[984]? = some (.code (rb_y 77) (rb_b 77) (rb_ml 77) (rb_rt 77)) := rfl
set_option maxRecDepth 1000000 in
theorem rb_wC_p78 : lw_tbl[991]? = some (.code (rb_y 78) (rb_b 78) (rb_ml 78) (rb_rt 78)) := rfl
set_option maxRecDepth 1000000 in
theorem rb_wC_p79 : lw_tbl[988]? = some (.code (rb_y 79) (rb_b 79) (rb_ml 79) (rb_rt 79)) := rfl
set_option maxRecDepth 1000000 in
theorem rb_wC_p80 : lw_tbl[995]? = some (.code (rb_y 80) (rb_b 80) (rb_ml 80) (rb_rt 80)) := rfl
set_option maxRecDepth 1000000 in
theorem rb_wC_p81 : lw_tbl[999]? = some (.code (rb_y 81) (rb_b 81) (rb_ml 81) (rb_rt 81)) := rfl
set_option maxRecDepth 1000000 in
theorem rb_wC_p82 : lw_tbl[1003]? = some (.code (rb_y 82) (rb_b 82) (rb_ml 82) (rb_rt 82)) := rfl
set_option maxRecDepth 1000000 in
theorem rb_wC_p83 : lw_tbl[1007]? = some (.code (rb_y 83) (rb_b 83) (rb_ml 83) (rb_rt 83)) := rfl
set_option maxRecDepth 1000000 in
theorem rb_wC_p84 : lw_tbl[1011]? = some (.code (rb_y 84) (rb_b 84) (rb_ml 84) (rb_rt 84)) := rfl
set_option maxRecDepth 1000000 in
theorem rb_wC_p85 : lw_tbl[1015]? = some (.code (rb_y 85) (rb_b 85) (rb_ml 85) (rb_rt 85)) := rfl
set_option maxRecDepth 1000000 in
theorem rb_wC_p86 : lw_tbl[1019]? = some (.code (rb_y 86) (rb_b 86) (rb_ml 86) (rb_rt 86)) := rfl
set_option maxRecDepth 1000000 in
theorem rb_wC_p87 : lw_tbl[1023]? = some (.code (rb_y 87) (rb_b 87) (rb_ml 87) (rb_rt 87)) := rfl
set_option maxRecDepth 1000000 in
theorem rb_wC_p88 : lw_tbl[250]? = some (.code (rb_y 88) (rb_b 88) (rb_ml 88) (rb_rt 88)) := rfl
set_option maxRecDepth 1000000 in
theorem rb_wC_p89 : lw_tbl[455]? = some (.code (rb_y 89) (rb_b 89) (rb_ml 89) (rb_rt 89)) := rfl
set_option maxRecDepth 1000000 in
theorem rb_wC_p90 : lw_tbl[471]? = some (.code (rb_y 90) (rb_b 90) (rb_ml 90) (rb_rt 90)) := rfl
set_option maxRecDepth 1000000 in
theorem rb_wC_p91 : lw_tbl[475]? = some (.code (rb_y 91) (rb_b 91) (rb_ml 91) (rb_rt 91)) := rfl
set_option maxRecDepth 1000000 in
theorem rb_wC_p92 : lw_tbl[484]? = some (.code (rb_y 92) (rb_b 92) (rb_ml 92) (rb_rt 92)) := rfl
set_option maxRecDepth 1000000 in
theorem rb_wC_p93 : lw_tbl[488]? = some (.code (rb_y 93) (rb_b 93) (rb_ml 93) (rb_rt 93)) := rfl
set_option maxRecDepth 1000000 in
theorem rb_wC_p94 : lw_tbl[74]? = some (.code (rb_y 94) (rb_b 94) (rb_ml 94) (rb_rt 94)) := rfl
set_option maxRecDepth 1000000 in
theorem rb_wC_p95 : lw_tbl[431]? = some (.code (rb_y 95) (rb_b 95) (rb_ml 95) (rb_rt 95)) := rfl
set_option maxRecDepth 1000000 in
theorem rb_wC_p96 : lw_tbl[508]? = some (.code (rb_y 96) (rb_b 96) (rb_ml 96) (rb_rt 96)) := rfl
set_option maxRecDepth 1000000 in
theorem rb_wC_p97 : lw_tbl[553]? = some (.code (rb_y 97) (rb_b 97) (rb_ml 97) (rb_rt 97)) := rfl
set_option maxRecDepth 1000000 in
theorem rb_wC_p98 : lw_tbl[244]? = some (.code (rb_y 98) (rb_b 98) (rb_ml 98) (rb_rt 98)) := rfl
set_option maxRecDepth 1000000 in
theorem rb_wC_p99 : lw_tbl[451]? = some (.code (rb_y 99) (rb_b 99) (rb_ml 99) (rb_rt 99)) := rfl
set_option maxRecDepth 1000000 in
theorem rb_wC_p100 : lw_tbl[627]? = some (.code (rb_y 100) (rb_b 100) (rb_ml 100) (rb_rt 100)) := rfl
set_option maxRecDepth 1000000 in
theorem rb_wC_p101 : lw_tbl[633]? = some (.code (rb_y 101) (rb_b 101) (rb_ml 101) (rb_rt 101)) := rfl
set_option maxRecDepth 1000000 in
theorem rb_wC_p102 : lw_tbl[647]? = some (.code (rb_y 102) (rb_b 102) (rb_ml 102) (rb_rt 102)) := rfl
set_option maxRecDepth 1000000 in
theorem rb_wC_p103 : lw_tbl[67]? = some (.code (rb_y 103) (rb_b 103) (rb_ml 103) (rb_rt 103)) := rfl
set_option maxRecDepth 1000000 in
theorem rb_wC_p104 : lw_tbl[381]? = some (.code (rb_y 104) (rb_b 104) (rb_ml 104) (rb_rt 104)) := rfl
set_option maxRecDepth 1000000 in
theorem rb_wC_p105 : lw_tbl[497]? = some (.code (rb_y 105) (rb_b 105) (rb_ml 105) (rb_rt 105)) := rfl
set_option maxRecDepth 1000000 in
theorem rb_wC_p106 : lw_tbl[427]? = some (.code (rb_y 106) (rb_b 106) (rb_ml 106) (rb_rt 106)) := rfl
set_option maxRecDepth 1000000 in
theorem rb_wC_p107 : lw_tbl[545]? = some (.code (rb_y 107) (rb_b 107) (rb_ml 107) (rb_rt 107)) := rfl
set_option maxRecDepth 1000000 in
theorem rb_wC_p108 : lw_tbl[549]? = some (.code (rb_y 108) (rb_b 108) (rb_ml 108) (rb_rt 108)) := rfl
set_option maxRecDepth 1000000 in
theorem rb_wC_p109 : lw_tbl[578]? = some (.code (rb_y 109) (rb_b 109) (rb_ml 109) (rb_rt 109)) := rfl
set_option maxRecDepth 1000000 in
theorem rb_wC_p110 : lw_tbl[537]? = some (.code (rb_y 110) (rb_b 110) (rb_ml 110) (rb_rt 110)) := rfl
set_option maxRecDepth 1000000 in
theorem rb_wC_p111 : lw_tbl[541]? = some (.code (rb_y 111) (rb_b 111) (rb_ml 111) (rb_rt 111)) := rfl
set_option maxRecDepth 1000000 in
theorem rb_wC_p112 : lw_tbl[60]? = some (.code (rb_y 112) (rb_b 112) (rb_ml 112) (rb_rt 112)) := rfl
set_option maxRecDepth 1000000 in
theorem rb_wC_p113 : lw_tbl[364]? = some (.code (rb_y 113) (rb_b 113) (rb_ml 113) (rb_rt 113)) := rfl
set_option maxRecDepth 1000000 in
theorem rb_wC_p114 : lw_tbl[372]? = some (.code (rb_y 114) (rb_b 114) (rb_ml 114) (rb_rt 114)) := rfl
set_option maxRecDepth 1000000 in
theorem rb_wC_p115 : lw_tbl[397]? = some (.code (rb_y 115) (rb_b 115) (rb_ml 115) (rb_rt 115)) := rfl
set_option maxRecDepth 1000000 in
theorem rb_wC_p116 : lw_tbl[524]? = some (.code (rb_y 116) (rb_b 116) (rb_ml 116) (rb_rt 116)) := rfl
set_option maxRecDepth 1000000 in
theorem rb_wC_p117 : lw_tbl[422]? = some (.code (rb_y 117) (rb_b 117) (rb_ml 117) (rb_rt 117)) := rfl
set_option maxRecDepth 1000000 in
theorem rb_wC_p118 : lw_tbl[376]? = some (.code (rb_y 118) (rb_b 118) (rb_ml 118) (rb_rt 118)) := rfl
set_option maxRecDepth 1000000 in
theorem rb_wC_p119 : lw_tbl[393]? = some (.code (rb_y 119) (rb_b 119) (rb_ml 119) (rb_rt 119)) := rfl
set_option maxRecDepth 1000000 in
theorem rb_wC_p120 : lw_tbl[401]? = some (.code (rb_y 120) (rb_b 120) (rb_ml 120) (rb_rt 120)) := rfl
set_option maxRecDepth 1000000 in
theorem rb_wC_p121 : lw_tbl[520]? = some (.code (rb_y 121) (rb_b 121) (rb_ml 121) (rb_rt 121)) := rfl
set_option maxRecDepth 1000000 in
theorem rb_wC_p122 : lw_tbl[528]? = some (.code (rb_y 122) (rb_b 122) (rb_ml 122) (rb_rt 122)) := rfl
set_option maxRecDepth 1000000 in
theorem rb_wC_p123 : lw_tbl[533]? = some (.code (rb_y 123) (rb_b 123) (rb_ml 123) (rb_rt 123)) := rfl
set_option maxRecDepth 1000000 in
theorem rb_wC_p124 : lw_tbl[574]? = some (.code (rb_y 124) (rb_b 124) (rb_ml 124) (rb_rt 124)) := rfl
set_option maxRecDepth 1000000 in
theorem rb_wC_p125 : lw_tbl[639]? = some (.code (rb_y 125) (rb_b 125) (rb_ml 125) (rb_rt 125)) := rfl
set_option maxRecDepth 1000000 in
theorem rb_wC_p126 : lw_tbl[643]? = some (.code (rb_y 126) (rb_b 126) (rb_ml 126) (rb_rt 126)) := rfl
set_option maxRecDepth 1000000 in
theorem rb_wC_p127 : lw_tbl[155]? = some (.code (rb_y 127) (rb_b 127) (rb_ml 127) (rb_rt 127)) := rfl
set_option maxRecDepth 1000000 in
theorem rb_wC_p128 : lw_tbl[582]? = some (.code (rb_y 128) (rb_b 128) (rb_ml 128) (rb_rt 128)) := rfl
set_option maxRecDepth 1000000 in
theorem rb_wC_p129 : lw_tbl[557]? = some (.code (rb_y 129) (rb_b 129) (rb_ml 129) (rb_rt 129)) := rfl
set_option maxRecDepth 1000000 in
theorem rb_wC_p130 : lw_tbl[561]? = some (.code (rb_y 130) (rb_b 130) (rb_ml 130) (rb_rt 130)) := rfl
set_option maxRecDepth 1000000 in
theorem rb_wC_p131 : lw_tbl[565]? = some (.code (rb_y 131) (rb_b 131) (rb_ml 131) (rb_rt 131)) := rfl
set_option maxRecDepth 1000000 in
theorem rb_wC_p132 : lw_tbl[659]? = some (.code (rb_y 132) (rb_b 132) (rb_ml 132) (rb_rt 132)) := rfl
theorem rb_wC_in {w : Jvm.Cond} (h : w ∈ rb_wC) : w ∈ lw_tbl := by
  obtain ⟨k, hk, rfl⟩ := List.mem_map.mp h
  have hk : k < 133 := List.mem_range.mp hk
  match k, hk with
  | 0, _ => exact List.mem_of_getElem? rb_wC_p0
  | 1, _ => exact List.mem_of_getElem? rb_wC_p1
  | 2, _ => exact List.mem_of_getElem? rb_wC_p2
  | 3, _ => exact List.mem_of_getElem? rb_wC_p3
  | 4, _ => exact List.mem_of_getElem? rb_wC_p4
  | 5, _ => exact List.mem_of_getElem? rb_wC_p5
  | 6, _ => exact List.mem_of_getElem? rb_wC_p6
  | 7, _ => exact List.mem_of_getElem? rb_wC_p7
  | 8, _ => exact List.mem_of_getElem? rb_wC_p8
  | 9, _ => exact List.mem_of_getElem? rb_wC_p9
  | 10, _ => exact List.mem_of_getElem? rb_wC_p10
  | 11, _ => exact List.mem_of_getElem? rb_wC_p11
  | 12, _ => exact List.mem_of_getElem? rb_wC_p12
  | 13, _ => exact List.mem_of_getElem? rb_wC_p13
  | 14, _ => exact List.mem_of_getElem? rb_wC_p14
  | 15, _ => exact List.mem_of_getElem? rb_wC_p15
  | 16, _ => exact List.mem_of_getElem? rb_wC_p16
  | 17, _ => exact List.mem_of_getElem? rb_wC_p17
  | 18, _ => exact List.mem_of_getElem? rb_wC_p18
  | 19, _ => exact List.mem_of_getElem? rb_wC_p19
  | 20, _ => exact List.mem_of_getElem? rb_wC_p20
  | 21, _ => exact List.mem_of_getElem? rb_wC_p21
  | 22, _ => exact List.mem_of_getElem? rb_wC_p22
  | 23, _ => exact List.mem_of_getElem? rb_wC_p23
  | 24, _ => exact List.mem_of_getElem? rb_wC_p24
  | 25, _ => exact List.mem_of_getElem? rb_wC_p25
  | 26, _ => exact List.mem_of_getElem? rb_wC_p26
  | 27, _ => exact List.mem_of_getElem? rb_wC_p27
  | 28, _ => exact List.mem_of_getElem? rb_wC_p28
  | 29, _ => exact List.mem_of_getElem? rb_wC_p29
  | 30, _ => exact List.mem_of_getElem? rb_wC_p30
  | 31, _ => exact List.mem_of_getElem? rb_wC_p31
  | 32, _ => exact List.mem_of_getElem? rb_wC_p32
  | 33, _ => exact List.mem_of_getElem? rb_wC_p33
  | 34, _ => exact List.mem_of_getElem? rb_wC_p34
  | 35, _ => exact List.mem_of_getElem? rb_wC_p35
  | 36, _ => exact List.mem_of_getElem? rb_wC_p36
  | 37, _ => exact List.mem_of_getElem? rb_wC_p37
  | 38, _ => exact List.mem_of_getElem? rb_wC_p38
  | 39, _ => exact List.mem_of_getElem? rb_wC_p39
  | 40, _ => exact List.mem_of_getElem? rb_wC_p40
  | 41, _ => exact List.mem_of_getElem? rb_wC_p41
  | 42, _ => exact List.mem_of_getElem? rb_wC_p42
  | 43, _ => exact List.mem_of_getElem? rb_wC_p43
  | 44, _ => exact List.mem_of_getElem? rb_wC_p44
  | 45, _ => exact List.mem_of_getElem? rb_wC_p45
  | 46, _ => exact List.mem_of_getElem? rb_wC_p46
  | 47, _ => exact List.mem_of_getElem? rb_wC_p47
  | 48, _ => exact List.mem_of_getElem? rb_wC_p48
  | 49, _ => exact List.mem_of_getElem? rb_wC_p49
  | 50, _ => exact List.mem_of_getElem? rb_wC_p50
  | 51, _ => exact List.mem_of_getElem? rb_wC_p51
  | 52, _ => exact List.mem_of_getElem? rb_wC_p52
  | 53, _ => exact List.mem_of_getElem? rb_wC_p53
  | 54, _ => exact List.mem_of_getElem? rb_wC_p54
  | 55, _ => exact List.mem_of_getElem? rb_wC_p55
  | 56, _ => exact List.mem_of_getElem? rb_wC_p56
  | 57, _ => exact List.mem_of_getElem? rb_wC_p57
  | 58, _ => exact List.mem_of_getElem? rb_wC_p58
  | 59, _ => exact List.mem_of_getElem? rb_wC_p59
  | 60, _ => exact List.mem_of_getElem? rb_wC_p60
  | 61, _ => exact List.mem_of_getElem? rb_wC_p61
  | 62, _ => exact List.mem_of_getElem? rb_wC_p62
  | 63, _ => exact List.mem_of_getElem? rb_wC_p63
  | 64, _ => exact List.mem_of_getElem? rb_wC_p64
  | 65, _ => exact List.mem_of_getElem? rb_wC_p65
  | 66, _ => exact List.mem_of_getElem? rb_wC_p66
  | 67, _ => exact List.mem_of_getElem? rb_wC_p67
  | 68, _ => exact List.mem_of_getElem? rb_wC_p68
  | 69, _ => exact List.mem_of_getElem? rb_wC_p69
  | 70, _ => exact List.mem_of_getElem? rb_wC_p70
  | 71, _ => exact List.mem_of_getElem? rb_wC_p71
  | 72, _ => exact List.mem_of_getElem? rb_wC_p72
  | 73, _ => exact List.mem_of_getElem? rb_wC_p73
  | 74, _ => exact List.mem_of_getElem? rb_wC_p74
  | 75, _ => exact List.mem_of_getElem? rb_wC_p75
  | 76, _ => exact List.mem_of_getElem? rb_wC_p76
  | 77, _ => exact List.mem_of_getElem? rb_wC_p77
  | 78, _ => exact List.mem_of_getElem? rb_wC_p78
  | 79, _ => exact List.mem_of_getElem? rb_wC_p79
  | 80, _ => exact List.mem_of_getElem? rb_wC_p80
  | 81, _ => exact List.mem_of_getElem? rb_wC_p81
  | 82, _ => exact List.mem_of_getElem? rb_wC_p82
  | 83, _ => exact List.mem_of_getElem? rb_wC_p83
  | 84, _ => exact List.mem_of_getElem? rb_wC_p84
  | 85, _ => exact List.mem_of_getElem? rb_wC_p85
  | 86, _ => exact List.mem_of_getElem? rb_wC_p86
  | 87, _ => exact List.mem_of_getElem? rb_wC_p87
  | 88, _ => exact List.mem_of_getElem? rb_wC_p88
  | 89, _ => exact List.mem_of_getElem? rb_wC_p89
  | 90, _ => exact List.mem_of_getElem? rb_wC_p90
  | 91, _ => exact List.mem_of_getElem? rb_wC_p91
  | 92, _ => exact List.mem_of_getElem? rb_wC_p92
  | 93, _ => exact List.mem_of_getElem? rb_wC_p93
  | 94, _ => exact List.mem_of_getElem? rb_wC_p94
  | 95, _ => exact List.mem_of_getElem? rb_wC_p95
  | 96, _ => exact List.mem_of_getElem? rb_wC_p96
  | 97, _ => exact List.mem_of_getElem? rb_wC_p97
  | 98, _ => exact List.mem_of_getElem? rb_wC_p98
  | 99, _ => exact List.mem_of_getElem? rb_wC_p99
  | 100, _ => exact List.mem_of_getElem? rb_wC_p100
  | 101, _ => exact List.mem_of_getElem? rb_wC_p101
  | 102, _ => exact List.mem_of_getElem? rb_wC_p102
  | 103, _ => exact List.mem_of_getElem? rb_wC_p103
  | 104, _ => exact List.mem_of_getElem? rb_wC_p104
  | 105, _ => exact List.mem_of_getElem? rb_wC_p105
  | 106, _ => exact List.mem_of_getElem? rb_wC_p106
  | 107, _ => exact List.mem_of_getElem? rb_wC_p107
  | 108, _ => exact List.mem_of_getElem? rb_wC_p108
  | 109, _ => exact List.mem_of_getElem? rb_wC_p109
  | 110, _ => exact List.mem_of_getElem? rb_wC_p110
  | 111, _ => exact List.mem_of_getElem? rb_wC_p111
  | 112, _ => exact List.mem_of_getElem? rb_wC_p112
  | 113, _ => exact List.mem_of_getElem? rb_wC_p113
  | 114, _ => exact List.mem_of_getElem? rb_wC_p114
  | 115, _ => exact List.mem_of_getElem? rb_wC_p115
  | 116, _ => exact List.mem_of_getElem? rb_wC_p116
  | 117, _ => exact List.mem_of_getElem? rb_wC_p117
  | 118, _ => exact List.mem_of_getElem? rb_wC_p118
  | 119, _ => exact List.mem_of_getElem? rb_wC_p119
  | 120, _ => exact List.mem_of_getElem? rb_wC_p120
  | 121, _ => exact List.mem_of_getElem? rb_wC_p121
  | 122, _ => exact List.mem_of_getElem? rb_wC_p122
  | 123, _ => exact List.mem_of_getElem? rb_wC_p123
  | 124, _ => exact List.mem_of_getElem? rb_wC_p124
  | 125, _ => exact List.mem_of_getElem? rb_wC_p125
  | 126, _ => exact List.mem_of_getElem? rb_wC_p126
  | 127, _ => exact List.mem_of_getElem? rb_wC_p127
  | 128, _ => exact List.mem_of_getElem? rb_wC_p128
  | 129, _ => exact List.mem_of_getElem? rb_wC_p129
  | 130, _ => exact List.mem_of_getElem? rb_wC_p130
  | 131, _ => exact List.mem_of_getElem? rb_wC_p131
  | 132, _ => exact List.mem_of_getElem? rb_wC_p132
  | n + 133, hk => omega
theorem rb_ws_tbl {w : Jvm.Cond} (h : w ∈ rb_ws) : w ∈ lw_tbl := by
  unfold rb_ws at h
  rcases List.mem_append.mp h with h | h
  · exact rb_wC_in h
  rcases List.mem_append.mp h with h | h
  · exact rb_wF_in h
  rcases List.mem_append.mp h with h | h
  · exact rb_wM_in h
  rcases List.mem_append.mp h with h | h
  · exact rb_wV_in h
  rcases List.mem_append.mp h with h | h
  · exact rb_posin _ rb_wO_p h
  rcases List.mem_append.mp h with h | h
  · exact rb_posin _ rb_wL_p h
  · exact rb_posin _ rb_wX_p h
