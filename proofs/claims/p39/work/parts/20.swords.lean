/-! what the law's own classes want: words, fields, small facts -/
theorem q_15 : (.initialized RL : Cond) ∈ GW := gw_mem 15 (by decide +kernel) (by decide +kernel)
theorem q_16 : (.initialized RX11 : Cond) ∈ GW := gw_mem 16 (by decide +kernel) (by decide +kernel)
theorem q_37 : (.methodLink RL 102 yX10_moveCorner : Cond) ∈ GW := gw_mem 37 (by decide +kernel) (by decide +kernel)
theorem q_38 : (.instanceMethod yX10_moveCorner : Cond) ∈ GW := gw_mem 38 (by decide +kernel) (by decide +kernel)
theorem q_39 : (.selects RX10 yX10_moveCorner yX10_moveCorner : Cond) ∈ GW := gw_mem 39 (by decide +kernel) (by decide +kernel)
theorem q_40 : (.code yX10_moveCorner cX10_moveCorner 7 (some .int) : Cond) ∈ GW := gw_mem 40 (by decide +kernel) (by decide +kernel)
theorem q_146 : (.methodLink RL 106 yX10_show : Cond) ∈ GW := gw_mem 146 (by decide +kernel) (by decide +kernel)
theorem q_147 : (.instanceMethod yX10_show : Cond) ∈ GW := gw_mem 147 (by decide +kernel) (by decide +kernel)
theorem q_148 : (.selects RX10 yX10_show yX10_show : Cond) ∈ GW := gw_mem 148 (by decide +kernel) (by decide +kernel)
theorem q_149 : (.code yX10_show cX10_show 4 (some .boolean) : Cond) ∈ GW := gw_mem 149 (by decide +kernel) (by decide +kernel)
theorem q_155 : (.methodLink RL 47 yX10_polygonOf : Cond) ∈ GW := gw_mem 155 (by decide +kernel) (by decide +kernel)
theorem q_250 : (.methodLink RL 50 yX10_piecesOf : Cond) ∈ GW := gw_mem 250 (by decide +kernel) (by decide +kernel)
theorem q_254 : (.methodLink RL 59 yX10_pointsOf : Cond) ∈ GW := gw_mem 254 (by decide +kernel) (by decide +kernel)
theorem q_274 : (.methodLink RL 72 yX10_liesIn : Cond) ∈ GW := gw_mem 274 (by decide +kernel) (by decide +kernel)
theorem q_275 : (.instanceMethod yX10_liesIn : Cond) ∈ GW := gw_mem 275 (by decide +kernel) (by decide +kernel)
theorem q_276 : (.selects RX10 yX10_liesIn yX10_liesIn : Cond) ∈ GW := gw_mem 276 (by decide +kernel) (by decide +kernel)
theorem q_277 : (.code yX10_liesIn cX10_liesIn 4 (some .boolean) : Cond) ∈ GW := gw_mem 277 (by decide +kernel) (by decide +kernel)
theorem q_283 : (.methodLink RL 76 yX10_depthOf : Cond) ∈ GW := gw_mem 283 (by decide +kernel) (by decide +kernel)
theorem q_284 : (.instanceMethod yX10_depthOf : Cond) ∈ GW := gw_mem 284 (by decide +kernel) (by decide +kernel)
theorem q_285 : (.selects RX10 yX10_depthOf yX10_depthOf : Cond) ∈ GW := gw_mem 285 (by decide +kernel) (by decide +kernel)
theorem q_286 : (.code yX10_depthOf cX10_depthOf 5 (some .int) : Cond) ∈ GW := gw_mem 286 (by decide +kernel) (by decide +kernel)
theorem q_295 : (.methodLink RL 80 yX10_colourOf : Cond) ∈ GW := gw_mem 295 (by decide +kernel) (by decide +kernel)
theorem q_296 : (.instanceMethod yX10_colourOf : Cond) ∈ GW := gw_mem 296 (by decide +kernel) (by decide +kernel)
theorem q_297 : (.selects RX10 yX10_colourOf yX10_colourOf : Cond) ∈ GW := gw_mem 297 (by decide +kernel) (by decide +kernel)
theorem q_298 : (.code yX10_colourOf cX10_colourOf 5 (some .int) : Cond) ∈ GW := gw_mem 298 (by decide +kernel) (by decide +kernel)
theorem q_324 : (.methodLink RL 30 yX10_paint : Cond) ∈ GW := gw_mem 324 (by decide +kernel) (by decide +kernel)
theorem q_325 : (.instanceMethod yX10_paint : Cond) ∈ GW := gw_mem 325 (by decide +kernel) (by decide +kernel)
theorem q_326 : (.selects RX10 yX10_paint yX10_paint : Cond) ∈ GW := gw_mem 326 (by decide +kernel) (by decide +kernel)
theorem q_327 : (.code yX10_paint cX10_paint 2 (some .int) : Cond) ∈ GW := gw_mem 327 (by decide +kernel) (by decide +kernel)
theorem q_375 : (.methodLink RL 36 yX10_stale : Cond) ∈ GW := gw_mem 375 (by decide +kernel) (by decide +kernel)
theorem q_376 : (.instanceMethod yX10_stale : Cond) ∈ GW := gw_mem 376 (by decide +kernel) (by decide +kernel)
theorem q_377 : (.selects RX10 yX10_stale yX10_stale : Cond) ∈ GW := gw_mem 377 (by decide +kernel) (by decide +kernel)
theorem q_378 : (.code yX10_stale cX10_stale 1 (some .int) : Cond) ∈ GW := gw_mem 378 (by decide +kernel) (by decide +kernel)
theorem q_379 : (.methodLink RL 113 yX10_colourAt : Cond) ∈ GW := gw_mem 379 (by decide +kernel) (by decide +kernel)
theorem q_383 : (.methodLink RL 88 yX10_depthAt : Cond) ∈ GW := gw_mem 383 (by decide +kernel) (by decide +kernel)
theorem q_387 : (.methodLink RL 85 yX10_paneAt : Cond) ∈ GW := gw_mem 387 (by decide +kernel) (by decide +kernel)
theorem q_391 : (.methodLink RL 69 yX10_pointsWith : Cond) ∈ GW := gw_mem 391 (by decide +kernel) (by decide +kernel)
theorem q_395 : (.methodLink RL 110 yX10_colours : Cond) ∈ GW := gw_mem 395 (by decide +kernel) (by decide +kernel)
theorem q_411 : (.methodLink RL 66 yX10_seenOf : Cond) ∈ GW := gw_mem 411 (by decide +kernel) (by decide +kernel)
theorem q_412 : (.instanceMethod yX10_seenOf : Cond) ∈ GW := gw_mem 412 (by decide +kernel) (by decide +kernel)
theorem q_413 : (.selects RX10 yX10_seenOf yX10_seenOf : Cond) ∈ GW := gw_mem 413 (by decide +kernel) (by decide +kernel)
theorem q_414 : (.code yX10_seenOf cX10_seenOf 4 (some .int) : Cond) ∈ GW := gw_mem 414 (by decide +kernel) (by decide +kernel)
theorem q_415 : (.methodLink RL 92 yX10_greatest : Cond) ∈ GW := gw_mem 415 (by decide +kernel) (by decide +kernel)
theorem q_416 : (.instanceMethod yX10_greatest : Cond) ∈ GW := gw_mem 416 (by decide +kernel) (by decide +kernel)
theorem q_417 : (.selects RX10 yX10_greatest yX10_greatest : Cond) ∈ GW := gw_mem 417 (by decide +kernel) (by decide +kernel)
theorem q_418 : (.code yX10_greatest cX10_greatest 5 (some .int) : Cond) ∈ GW := gw_mem 418 (by decide +kernel) (by decide +kernel)
theorem q_420 : (.methodLink RL 39 yX10_digest : Cond) ∈ GW := gw_mem 420 (by decide +kernel) (by decide +kernel)
theorem q_421 : (.instanceMethod yX10_digest : Cond) ∈ GW := gw_mem 421 (by decide +kernel) (by decide +kernel)
theorem q_422 : (.selects RX10 yX10_digest yX10_digest : Cond) ∈ GW := gw_mem 422 (by decide +kernel) (by decide +kernel)
theorem q_423 : (.code yX10_digest cX10_digest 5 (some .long) : Cond) ∈ GW := gw_mem 423 (by decide +kernel) (by decide +kernel)
theorem q_825 : (.fieldLink RX11 10 RX11 "m" "LGlassRaster;" : Cond) ∈ GW := gw_mem 825 (by decide +kernel) (by decide +kernel)
theorem q_827 : (.fieldLink RX11 48 RX11 "s" "[I" : Cond) ∈ GW := gw_mem 827 (by decide +kernel) (by decide +kernel)
theorem q_828 : (.fieldLink RX11 51 RX11 "draws" "I" : Cond) ∈ GW := gw_mem 828 (by decide +kernel) (by decide +kernel)
theorem q_829 : (.fieldLink RL 95 RX11 "corners" "I" : Cond) ∈ GW := gw_mem 829 (by decide +kernel) (by decide +kernel)
theorem q_830 : (.fieldLink RX11 75 RX11 "corners" "I" : Cond) ∈ GW := gw_mem 830 (by decide +kernel) (by decide +kernel)
theorem q_831 : (.fieldLink RL 43 RX11 "panes" "I" : Cond) ∈ GW := gw_mem 831 (by decide +kernel) (by decide +kernel)
theorem q_832 : (.fieldLink RX11 82 RX11 "panes" "I" : Cond) ∈ GW := gw_mem 832 (by decide +kernel) (by decide +kernel)
theorem q_833 : (.fieldLink RX11 18 RX11 "corner" "[[I" : Cond) ∈ GW := gw_mem 833 (by decide +kernel) (by decide +kernel)
theorem q_834 : (.fieldLink RL 98 RX11 "corner" "[[I" : Cond) ∈ GW := gw_mem 834 (by decide +kernel) (by decide +kernel)
theorem q_835 : (.fieldLink RX11 21 RX11 "pane" "[[I" : Cond) ∈ GW := gw_mem 835 (by decide +kernel) (by decide +kernel)
theorem q_836 : (.fieldLink RX11 26 RX11 "is" "[[Z" : Cond) ∈ GW := gw_mem 836 (by decide +kernel) (by decide +kernel)
theorem q_837 : (.fieldLink RL 62 RX11 "is" "[[Z" : Cond) ∈ GW := gw_mem 837 (by decide +kernel) (by decide +kernel)
theorem q_838 : (.fieldLink RX11 31 RX11 "camera" "[[I" : Cond) ∈ GW := gw_mem 838 (by decide +kernel) (by decide +kernel)
theorem q_839 : (.fieldLink RX11 34 RX11 "pattern" "[[I" : Cond) ∈ GW := gw_mem 839 (by decide +kernel) (by decide +kernel)
theorem q_840 : (.fieldLink RX11 37 RX11 "repeats" "[Z" : Cond) ∈ GW := gw_mem 840 (by decide +kernel) (by decide +kernel)
theorem q_841 : (.fieldLink RX11 41 RX11 "near" "I" : Cond) ∈ GW := gw_mem 841 (by decide +kernel) (by decide +kernel)
theorem q_842 : (.fieldLink RX11 45 RX11 "focus" "I" : Cond) ∈ GW := gw_mem 842 (by decide +kernel) (by decide +kernel)
theorem q_843 : (.fieldLink RL 116 RX11 "background" "I" : Cond) ∈ GW := gw_mem 843 (by decide +kernel) (by decide +kernel)
theorem q_844 : (.fieldLink RX11 144 RX11 "background" "I" : Cond) ∈ GW := gw_mem 844 (by decide +kernel) (by decide +kernel)
theorem q_875 : (.methodLink RL 18 yX11_draw : Cond) ∈ GW := gw_mem 875 (by decide +kernel) (by decide +kernel)
theorem q_876 : (.instanceMethod yX11_draw : Cond) ∈ GW := gw_mem 876 (by decide +kernel) (by decide +kernel)
theorem q_877 : (.selects RX11 yX11_draw yX11_draw : Cond) ∈ GW := gw_mem 877 (by decide +kernel) (by decide +kernel)
theorem q_878 : (.code yX11_draw cX11_draw 3 (some .int) : Cond) ∈ GW := gw_mem 878 (by decide +kernel) (by decide +kernel)
theorem q_880 : (.static yL_cell : Cond) ∈ GW := gw_mem 880 (by decide +kernel) (by decide +kernel)
theorem q_881 : (.code yL_cell cL_cell 2 (some .int) : Cond) ∈ GW := gw_mem 881 (by decide +kernel) (by decide +kernel)
theorem q_882 : ((Jvm.Cond.constant "GlassRasterLaw" (8 : Nat) (790386105 : Int32)) : Cond) ∈ GW := gw_mem 882 (by decide +kernel) (by decide +kernel)
theorem q_884 : (.static yL_below : Cond) ∈ GW := gw_mem 884 (by decide +kernel) (by decide +kernel)
theorem q_885 : (.code yL_below cL_below 2 (some .int) : Cond) ∈ GW := gw_mem 885 (by decide +kernel) (by decide +kernel)
theorem q_886 : ((Jvm.Cond.constant "GlassRasterLaw" (7 : Nat) (2147483647 : Int32)) : Cond) ∈ GW := gw_mem 886 (by decide +kernel) (by decide +kernel)
theorem q_887 : (.methodLink RL 22 yX11_build : Cond) ∈ GW := gw_mem 887 (by decide +kernel) (by decide +kernel)
theorem q_888 : (.instanceMethod yX11_build : Cond) ∈ GW := gw_mem 888 (by decide +kernel) (by decide +kernel)
theorem q_889 : (.selects RX11 yX11_build yX11_build : Cond) ∈ GW := gw_mem 889 (by decide +kernel) (by decide +kernel)
theorem q_890 : (.code yX11_build cX11_build 4 (some .boolean) : Cond) ∈ GW := gw_mem 890 (by decide +kernel) (by decide +kernel)
theorem q_891 : (.methodLink RX11 93 yX11_addCorner : Cond) ∈ GW := gw_mem 891 (by decide +kernel) (by decide +kernel)
theorem q_892 : (.instanceMethod yX11_addCorner : Cond) ∈ GW := gw_mem 892 (by decide +kernel) (by decide +kernel)
theorem q_893 : (.selects RX11 yX11_addCorner yX11_addCorner : Cond) ∈ GW := gw_mem 893 (by decide +kernel) (by decide +kernel)
theorem q_894 : (.code yX11_addCorner cX11_addCorner 2 (some .boolean) : Cond) ∈ GW := gw_mem 894 (by decide +kernel) (by decide +kernel)
theorem q_895 : (.methodLink RX11 68 yX11_between : Cond) ∈ GW := gw_mem 895 (by decide +kernel) (by decide +kernel)
theorem q_896 : (.instanceMethod yX11_between : Cond) ∈ GW := gw_mem 896 (by decide +kernel) (by decide +kernel)
theorem q_897 : (.selects RX11 yX11_between yX11_between : Cond) ∈ GW := gw_mem 897 (by decide +kernel) (by decide +kernel)
theorem q_898 : (.code yX11_between cX11_between 3 (some .int) : Cond) ∈ GW := gw_mem 898 (by decide +kernel) (by decide +kernel)
theorem q_899 : (.methodLink RX11 64 yX11_draw : Cond) ∈ GW := gw_mem 899 (by decide +kernel) (by decide +kernel)
theorem q_900 : (.methodLink RX11 71 yX11_colour : Cond) ∈ GW := gw_mem 900 (by decide +kernel) (by decide +kernel)
theorem q_901 : (.instanceMethod yX11_colour : Cond) ∈ GW := gw_mem 901 (by decide +kernel) (by decide +kernel)
theorem q_902 : (.selects RX11 yX11_colour yX11_colour : Cond) ∈ GW := gw_mem 902 (by decide +kernel) (by decide +kernel)
theorem q_903 : (.code yX11_colour cX11_colour 1 (some .int) : Cond) ∈ GW := gw_mem 903 (by decide +kernel) (by decide +kernel)
theorem q_904 : (.methodLink RX11 78 yX10_addCorner : Cond) ∈ GW := gw_mem 904 (by decide +kernel) (by decide +kernel)
theorem q_905 : (.instanceMethod yX10_addCorner : Cond) ∈ GW := gw_mem 905 (by decide +kernel) (by decide +kernel)
theorem q_906 : (.selects RX10 yX10_addCorner yX10_addCorner : Cond) ∈ GW := gw_mem 906 (by decide +kernel) (by decide +kernel)
theorem q_907 : (.code yX10_addCorner cX10_addCorner 9 (some .int) : Cond) ∈ GW := gw_mem 907 (by decide +kernel) (by decide +kernel)
theorem q_930 : (.methodLink RX11 96 yX11_addPane : Cond) ∈ GW := gw_mem 930 (by decide +kernel) (by decide +kernel)
theorem q_931 : (.instanceMethod yX11_addPane : Cond) ∈ GW := gw_mem 931 (by decide +kernel) (by decide +kernel)
theorem q_932 : (.selects RX11 yX11_addPane yX11_addPane : Cond) ∈ GW := gw_mem 932 (by decide +kernel) (by decide +kernel)
theorem q_933 : (.code yX11_addPane cX11_addPane 6 (some .boolean) : Cond) ∈ GW := gw_mem 933 (by decide +kernel) (by decide +kernel)
theorem q_934 : (.methodLink RX11 85 yX10_addPane : Cond) ∈ GW := gw_mem 934 (by decide +kernel) (by decide +kernel)
theorem q_935 : (.instanceMethod yX10_addPane : Cond) ∈ GW := gw_mem 935 (by decide +kernel) (by decide +kernel)
theorem q_936 : (.selects RX10 yX10_addPane yX10_addPane : Cond) ∈ GW := gw_mem 936 (by decide +kernel) (by decide +kernel)
theorem q_937 : (.code yX10_addPane cX10_addPane 9 (some .int) : Cond) ∈ GW := gw_mem 937 (by decide +kernel) (by decide +kernel)
theorem q_945 : (.methodLink RX11 98 yX11_colourPattern : Cond) ∈ GW := gw_mem 945 (by decide +kernel) (by decide +kernel)
theorem q_946 : (.instanceMethod yX11_colourPattern : Cond) ∈ GW := gw_mem 946 (by decide +kernel) (by decide +kernel)
theorem q_947 : (.selects RX11 yX11_colourPattern yX11_colourPattern : Cond) ∈ GW := gw_mem 947 (by decide +kernel) (by decide +kernel)
theorem q_948 : (.code yX11_colourPattern cX11_colourPattern 5 (some .boolean) : Cond) ∈ GW := gw_mem 948 (by decide +kernel) (by decide +kernel)
theorem q_949 : (.methodLink RX11 89 yX10_setPattern : Cond) ∈ GW := gw_mem 949 (by decide +kernel) (by decide +kernel)
theorem q_950 : (.instanceMethod yX10_setPattern : Cond) ∈ GW := gw_mem 950 (by decide +kernel) (by decide +kernel)
theorem q_951 : (.selects RX10 yX10_setPattern yX10_setPattern : Cond) ∈ GW := gw_mem 951 (by decide +kernel) (by decide +kernel)
theorem q_952 : (.code yX10_setPattern cX10_setPattern 8 (some .int) : Cond) ∈ GW := gw_mem 952 (by decide +kernel) (by decide +kernel)
theorem q_958 : (.methodLink RL 26 yX11_change : Cond) ∈ GW := gw_mem 958 (by decide +kernel) (by decide +kernel)
theorem q_959 : (.instanceMethod yX11_change : Cond) ∈ GW := gw_mem 959 (by decide +kernel) (by decide +kernel)
theorem q_960 : (.selects RX11 yX11_change yX11_change : Cond) ∈ GW := gw_mem 960 (by decide +kernel) (by decide +kernel)
theorem q_961 : (.code yX11_change cX11_change 4 (some .boolean) : Cond) ∈ GW := gw_mem 961 (by decide +kernel) (by decide +kernel)
theorem q_962 : (.methodLink RX11 125 yX11_move : Cond) ∈ GW := gw_mem 962 (by decide +kernel) (by decide +kernel)
theorem q_963 : (.instanceMethod yX11_move : Cond) ∈ GW := gw_mem 963 (by decide +kernel) (by decide +kernel)
theorem q_964 : (.selects RX11 yX11_move yX11_move : Cond) ∈ GW := gw_mem 964 (by decide +kernel) (by decide +kernel)
theorem q_965 : (.code yX11_move cX11_move 6 (some .boolean) : Cond) ∈ GW := gw_mem 965 (by decide +kernel) (by decide +kernel)
theorem q_966 : (.methodLink RX11 122 yX10_moveCorner : Cond) ∈ GW := gw_mem 966 (by decide +kernel) (by decide +kernel)
theorem q_967 : (.methodLink RX11 129 yX11_turnCamera : Cond) ∈ GW := gw_mem 967 (by decide +kernel) (by decide +kernel)
theorem q_968 : (.instanceMethod yX11_turnCamera : Cond) ∈ GW := gw_mem 968 (by decide +kernel) (by decide +kernel)
theorem q_969 : (.selects RX11 yX11_turnCamera yX11_turnCamera : Cond) ∈ GW := gw_mem 969 (by decide +kernel) (by decide +kernel)
theorem q_970 : (.code yX11_turnCamera cX11_turnCamera 3 (some .boolean) : Cond) ∈ GW := gw_mem 970 (by decide +kernel) (by decide +kernel)
theorem q_971 : (.methodLink RX11 112 yX10_setCamera : Cond) ∈ GW := gw_mem 971 (by decide +kernel) (by decide +kernel)
theorem q_972 : (.instanceMethod yX10_setCamera : Cond) ∈ GW := gw_mem 972 (by decide +kernel) (by decide +kernel)
theorem q_973 : (.selects RX10 yX10_setCamera yX10_setCamera : Cond) ∈ GW := gw_mem 973 (by decide +kernel) (by decide +kernel)
theorem q_974 : (.code yX10_setCamera cX10_setCamera 6 (some .int) : Cond) ∈ GW := gw_mem 974 (by decide +kernel) (by decide +kernel)
theorem q_985 : (.methodLink RX11 116 yX11_inFront : Cond) ∈ GW := gw_mem 985 (by decide +kernel) (by decide +kernel)
theorem q_986 : (.instanceMethod yX11_inFront : Cond) ∈ GW := gw_mem 986 (by decide +kernel) (by decide +kernel)
theorem q_987 : (.selects RX11 yX11_inFront yX11_inFront : Cond) ∈ GW := gw_mem 987 (by decide +kernel) (by decide +kernel)
theorem q_988 : (.code yX11_inFront cX11_inFront 3 (some .int) : Cond) ∈ GW := gw_mem 988 (by decide +kernel) (by decide +kernel)
theorem q_989 : (.methodLink RX11 109 yX11_seen : Cond) ∈ GW := gw_mem 989 (by decide +kernel) (by decide +kernel)
theorem q_990 : (.instanceMethod yX11_seen : Cond) ∈ GW := gw_mem 990 (by decide +kernel) (by decide +kernel)
theorem q_991 : (.selects RX11 yX11_seen yX11_seen : Cond) ∈ GW := gw_mem 991 (by decide +kernel) (by decide +kernel)
theorem q_992 : (.code yX11_seen cX11_seen 5 (some .int) : Cond) ∈ GW := gw_mem 992 (by decide +kernel) (by decide +kernel)
theorem q_993 : ((Jvm.Cond.constantLong "GlassRasterLaw$Scene" (101 : Nat) (1024 : Int64)) : Cond) ∈ GW := gw_mem 993 (by decide +kernel) (by decide +kernel)
theorem q_994 : (.methodLink RX11 103 yJ9_floorDiv_f86c9 : Cond) ∈ GW := gw_mem 994 (by decide +kernel) (by decide +kernel)
theorem q_995 : (.methodLink RX11 132 yX11_setLens : Cond) ∈ GW := gw_mem 995 (by decide +kernel) (by decide +kernel)
theorem q_996 : (.instanceMethod yX11_setLens : Cond) ∈ GW := gw_mem 996 (by decide +kernel) (by decide +kernel)
theorem q_997 : (.selects RX11 yX11_setLens yX11_setLens : Cond) ∈ GW := gw_mem 997 (by decide +kernel) (by decide +kernel)
theorem q_998 : (.code yX11_setLens cX11_setLens 1 (some .boolean) : Cond) ∈ GW := gw_mem 998 (by decide +kernel) (by decide +kernel)
theorem q_999 : (.methodLink RX11 119 yX10_setLens : Cond) ∈ GW := gw_mem 999 (by decide +kernel) (by decide +kernel)
theorem q_1000 : (.instanceMethod yX10_setLens : Cond) ∈ GW := gw_mem 1000 (by decide +kernel) (by decide +kernel)
theorem q_1001 : (.selects RX10 yX10_setLens yX10_setLens : Cond) ∈ GW := gw_mem 1001 (by decide +kernel) (by decide +kernel)
theorem q_1002 : (.code yX10_setLens cX10_setLens 3 (some .int) : Cond) ∈ GW := gw_mem 1002 (by decide +kernel) (by decide +kernel)
theorem q_1005 : (.methodLink RX11 134 yX10_setColour : Cond) ∈ GW := gw_mem 1005 (by decide +kernel) (by decide +kernel)
theorem q_1006 : (.instanceMethod yX10_setColour : Cond) ∈ GW := gw_mem 1006 (by decide +kernel) (by decide +kernel)
theorem q_1007 : (.selects RX10 yX10_setColour yX10_setColour : Cond) ∈ GW := gw_mem 1007 (by decide +kernel) (by decide +kernel)
theorem q_1008 : (.code yX10_setColour cX10_setColour 4 (some .int) : Cond) ∈ GW := gw_mem 1008 (by decide +kernel) (by decide +kernel)
theorem q_1009 : (.methodLink RX11 137 yX10_show : Cond) ∈ GW := gw_mem 1009 (by decide +kernel) (by decide +kernel)
theorem q_1010 : (.methodLink RX11 141 yX10_setRepeats : Cond) ∈ GW := gw_mem 1010 (by decide +kernel) (by decide +kernel)
theorem q_1011 : (.instanceMethod yX10_setRepeats : Cond) ∈ GW := gw_mem 1011 (by decide +kernel) (by decide +kernel)
theorem q_1012 : (.selects RX10 yX10_setRepeats yX10_setRepeats : Cond) ∈ GW := gw_mem 1012 (by decide +kernel) (by decide +kernel)
theorem q_1013 : (.code yX10_setRepeats cX10_setRepeats 4 (some .boolean) : Cond) ∈ GW := gw_mem 1013 (by decide +kernel) (by decide +kernel)
theorem q_1014 : (.methodLink RX11 147 yX10_setBackground : Cond) ∈ GW := gw_mem 1014 (by decide +kernel) (by decide +kernel)
theorem q_1015 : (.instanceMethod yX10_setBackground : Cond) ∈ GW := gw_mem 1015 (by decide +kernel) (by decide +kernel)
theorem q_1016 : (.selects RX10 yX10_setBackground yX10_setBackground : Cond) ∈ GW := gw_mem 1016 (by decide +kernel) (by decide +kernel)
theorem q_1017 : (.code yX10_setBackground cX10_setBackground 3 (some .int) : Cond) ∈ GW := gw_mem 1017 (by decide +kernel) (by decide +kernel)
theorem q_1018 : (.methodLink RL 53 yJ9_max_7cf53 : Cond) ∈ GW := gw_mem 1018 (by decide +kernel) (by decide +kernel)
theorem q_1019 : ((Jvm.Cond.constant "GlassRasterLaw" (83 : Nat) (65534 : Int32)) : Cond) ∈ GW := gw_mem 1019 (by decide +kernel) (by decide +kernel)
theorem q_1020 : ((Jvm.Cond.constant "GlassRasterLaw" (84 : Nat) (16777215 : Int32)) : Cond) ∈ GW := gw_mem 1020 (by decide +kernel) (by decide +kernel)
theorem q_1021 : ((Jvm.Cond.constant "GlassRasterLaw" (91 : Nat) (65535 : Int32)) : Cond) ∈ GW := gw_mem 1021 (by decide +kernel) (by decide +kernel)
theorem q_ac20 : (.arrayClass .int : Cond) ∈ GW := gw_mem 503 (by decide +kernel) (by decide +kernel)
theorem q_ac22 : (.arrayClass .boolean : Cond) ∈ GW := gw_mem 874 (by decide +kernel) (by decide +kernel)
theorem gT_c122 : gT 122 = 11 := by decide +kernel
theorem gT_c123 : gT 123 = 28 := by decide +kernel
theorem gT_c124 : gT 124 = 28 := by decide +kernel
theorem gT_c125 : gT 125 = 29 := by decide +kernel
theorem gT_c126 : gT 126 = 28 := by decide +kernel
theorem gT_c127 : gT 127 = 28 := by decide +kernel
theorem gT_c128 : gT 128 = 22 := by decide +kernel
theorem gT_c236 : gT 236 = 30 := by decide +kernel
theorem gT_c237 : gT 237 = 30 := by decide +kernel
theorem gT_c238 : gT 238 = 31 := by decide +kernel
theorem gT_c239 : gT 239 = 30 := by decide +kernel
theorem tn_1 : Int32.toNatClampNeg 1 = 1 := by decide +kernel
theorem tn_2 : Int32.toNatClampNeg 2 = 2 := by decide +kernel
theorem tn_3 : Int32.toNatClampNeg 3 = 3 := by decide +kernel
theorem tn_4 : Int32.toNatClampNeg 4 = 4 := by decide +kernel
theorem tn_5 : Int32.toNatClampNeg 5 = 5 := by decide +kernel
theorem tn_6 : Int32.toNatClampNeg 6 = 6 := by decide +kernel
theorem ii_m1 : Int32.ofInt (-1) = (-1) := by decide +kernel
section SN
variable {x : GX} {cc : ByteArray} {nL d pc : Nat} {own : String} {M : GM} {lv : List (Nat × Value)} {st : List Value}
end SN
theorem gf_X11_10 {x : GX} {cc : ByteArray} {nL d pc : Nat} {M : GM} {lv : List (Nat × Value)} {st : List Value} (X : GC x cc nL RX11 d) {g : Nat} (ht : gT g = 11) (dec : decode cc pc = .ok (.getfield 10, 3)) (go : WG x M lv (pc + 3) (.ref (gad (xz x) 0) :: st)) : WG x M lv pc (.ref (gad (xz x) g) :: st) := g_get X (k := 0) ht (by decide) (gE_11 ht) rfl inX11 (by decide) q_825 rfl rfl dec go
theorem gf_X11_144 {x : GX} {cc : ByteArray} {nL d pc : Nat} {M : GM} {lv : List (Nat × Value)} {st : List Value} (X : GC x cc nL RX11 d) {g : Nat} (ht : gT g = 11) (dec : decode cc pc = .ok (.getfield 144, 3)) (go : WG x M lv (pc + 3) (.int (gI M g 13) :: st)) : WG x M lv pc (.ref (gad (xz x) g) :: st) := g_get X (k := 13) ht (by decide) (gE_11 ht) rfl inX11 (by decide) q_844 rfl rfl dec go
theorem gf_X11_18 {x : GX} {cc : ByteArray} {nL d pc : Nat} {M : GM} {lv : List (Nat × Value)} {st : List Value} (X : GC x cc nL RX11 d) {g : Nat} (ht : gT g = 11) (dec : decode cc pc = .ok (.getfield 18, 3)) (go : WG x M lv (pc + 3) (.ref (gad (xz x) 123) :: st)) : WG x M lv pc (.ref (gad (xz x) g) :: st) := g_get X (k := 5) ht (by decide) (gE_11 ht) rfl inX11 (by decide) q_833 rfl rfl dec go
theorem gf_X11_21 {x : GX} {cc : ByteArray} {nL d pc : Nat} {M : GM} {lv : List (Nat × Value)} {st : List Value} (X : GC x cc nL RX11 d) {g : Nat} (ht : gT g = 11) (dec : decode cc pc = .ok (.getfield 21, 3)) (go : WG x M lv (pc + 3) (.ref (gad (xz x) 124) :: st)) : WG x M lv pc (.ref (gad (xz x) g) :: st) := g_get X (k := 6) ht (by decide) (gE_11 ht) rfl inX11 (by decide) q_835 rfl rfl dec go
theorem gf_X11_26 {x : GX} {cc : ByteArray} {nL d pc : Nat} {M : GM} {lv : List (Nat × Value)} {st : List Value} (X : GC x cc nL RX11 d) {g : Nat} (ht : gT g = 11) (dec : decode cc pc = .ok (.getfield 26, 3)) (go : WG x M lv (pc + 3) (.ref (gad (xz x) 125) :: st)) : WG x M lv pc (.ref (gad (xz x) g) :: st) := g_get X (k := 7) ht (by decide) (gE_11 ht) rfl inX11 (by decide) q_836 rfl rfl dec go
theorem gf_X11_31 {x : GX} {cc : ByteArray} {nL d pc : Nat} {M : GM} {lv : List (Nat × Value)} {st : List Value} (X : GC x cc nL RX11 d) {g : Nat} (ht : gT g = 11) (dec : decode cc pc = .ok (.getfield 31, 3)) (go : WG x M lv (pc + 3) (.ref (gad (xz x) 126) :: st)) : WG x M lv pc (.ref (gad (xz x) g) :: st) := g_get X (k := 8) ht (by decide) (gE_11 ht) rfl inX11 (by decide) q_838 rfl rfl dec go
theorem gf_X11_34 {x : GX} {cc : ByteArray} {nL d pc : Nat} {M : GM} {lv : List (Nat × Value)} {st : List Value} (X : GC x cc nL RX11 d) {g : Nat} (ht : gT g = 11) (dec : decode cc pc = .ok (.getfield 34, 3)) (go : WG x M lv (pc + 3) (.ref (gad (xz x) 127) :: st)) : WG x M lv pc (.ref (gad (xz x) g) :: st) := g_get X (k := 9) ht (by decide) (gE_11 ht) rfl inX11 (by decide) q_839 rfl rfl dec go
theorem gf_X11_37 {x : GX} {cc : ByteArray} {nL d pc : Nat} {M : GM} {lv : List (Nat × Value)} {st : List Value} (X : GC x cc nL RX11 d) {g : Nat} (ht : gT g = 11) (dec : decode cc pc = .ok (.getfield 37, 3)) (go : WG x M lv (pc + 3) (.ref (gad (xz x) 128) :: st)) : WG x M lv pc (.ref (gad (xz x) g) :: st) := g_get X (k := 10) ht (by decide) (gE_11 ht) rfl inX11 (by decide) q_840 rfl rfl dec go
theorem gf_X11_41 {x : GX} {cc : ByteArray} {nL d pc : Nat} {M : GM} {lv : List (Nat × Value)} {st : List Value} (X : GC x cc nL RX11 d) {g : Nat} (ht : gT g = 11) (dec : decode cc pc = .ok (.getfield 41, 3)) (go : WG x M lv (pc + 3) (.int (gI M g 11) :: st)) : WG x M lv pc (.ref (gad (xz x) g) :: st) := g_get X (k := 11) ht (by decide) (gE_11 ht) rfl inX11 (by decide) q_841 rfl rfl dec go
theorem gf_X11_45 {x : GX} {cc : ByteArray} {nL d pc : Nat} {M : GM} {lv : List (Nat × Value)} {st : List Value} (X : GC x cc nL RX11 d) {g : Nat} (ht : gT g = 11) (dec : decode cc pc = .ok (.getfield 45, 3)) (go : WG x M lv (pc + 3) (.int (gI M g 12) :: st)) : WG x M lv pc (.ref (gad (xz x) g) :: st) := g_get X (k := 12) ht (by decide) (gE_11 ht) rfl inX11 (by decide) q_842 rfl rfl dec go
theorem gf_X11_48 {x : GX} {cc : ByteArray} {nL d pc : Nat} {M : GM} {lv : List (Nat × Value)} {st : List Value} (X : GC x cc nL RX11 d) {g : Nat} (ht : gT g = 11) (dec : decode cc pc = .ok (.getfield 48, 3)) (go : WG x M lv (pc + 3) (.ref (gsa (xz x)) :: st)) : WG x M lv pc (.ref (gad (xz x) g) :: st) := g_get X (k := 1) ht (by decide) (gE_11 ht) rfl inX11 (by decide) q_827 rfl rfl dec go
theorem gf_X11_51 {x : GX} {cc : ByteArray} {nL d pc : Nat} {M : GM} {lv : List (Nat × Value)} {st : List Value} (X : GC x cc nL RX11 d) {g : Nat} (ht : gT g = 11) (dec : decode cc pc = .ok (.getfield 51, 3)) (go : WG x M lv (pc + 3) (.int (gI M g 2) :: st)) : WG x M lv pc (.ref (gad (xz x) g) :: st) := g_get X (k := 2) ht (by decide) (gE_11 ht) rfl inX11 (by decide) q_828 rfl rfl dec go
theorem gf_X11_75 {x : GX} {cc : ByteArray} {nL d pc : Nat} {M : GM} {lv : List (Nat × Value)} {st : List Value} (X : GC x cc nL RX11 d) {g : Nat} (ht : gT g = 11) (dec : decode cc pc = .ok (.getfield 75, 3)) (go : WG x M lv (pc + 3) (.int (gI M g 3) :: st)) : WG x M lv pc (.ref (gad (xz x) g) :: st) := g_get X (k := 3) ht (by decide) (gE_11 ht) rfl inX11 (by decide) q_830 rfl rfl dec go
theorem gf_X11_82 {x : GX} {cc : ByteArray} {nL d pc : Nat} {M : GM} {lv : List (Nat × Value)} {st : List Value} (X : GC x cc nL RX11 d) {g : Nat} (ht : gT g = 11) (dec : decode cc pc = .ok (.getfield 82, 3)) (go : WG x M lv (pc + 3) (.int (gI M g 4) :: st)) : WG x M lv pc (.ref (gad (xz x) g) :: st) := g_get X (k := 4) ht (by decide) (gE_11 ht) rfl inX11 (by decide) q_832 rfl rfl dec go
theorem gf_L_116 {x : GX} {cc : ByteArray} {nL d pc : Nat} {M : GM} {lv : List (Nat × Value)} {st : List Value} (X : GC x cc nL RL d) {g : Nat} (ht : gT g = 11) (dec : decode cc pc = .ok (.getfield 116, 3)) (go : WG x M lv (pc + 3) (.int (gI M g 13) :: st)) : WG x M lv pc (.ref (gad (xz x) g) :: st) := g_get X (k := 13) ht (by decide) (gE_11 ht) rfl inX11 (by decide) q_843 rfl rfl dec go
theorem gf_L_43 {x : GX} {cc : ByteArray} {nL d pc : Nat} {M : GM} {lv : List (Nat × Value)} {st : List Value} (X : GC x cc nL RL d) {g : Nat} (ht : gT g = 11) (dec : decode cc pc = .ok (.getfield 43, 3)) (go : WG x M lv (pc + 3) (.int (gI M g 4) :: st)) : WG x M lv pc (.ref (gad (xz x) g) :: st) := g_get X (k := 4) ht (by decide) (gE_11 ht) rfl inX11 (by decide) q_831 rfl rfl dec go
theorem gf_L_62 {x : GX} {cc : ByteArray} {nL d pc : Nat} {M : GM} {lv : List (Nat × Value)} {st : List Value} (X : GC x cc nL RL d) {g : Nat} (ht : gT g = 11) (dec : decode cc pc = .ok (.getfield 62, 3)) (go : WG x M lv (pc + 3) (.ref (gad (xz x) 125) :: st)) : WG x M lv pc (.ref (gad (xz x) g) :: st) := g_get X (k := 7) ht (by decide) (gE_11 ht) rfl inX11 (by decide) q_837 rfl rfl dec go
theorem gf_L_95 {x : GX} {cc : ByteArray} {nL d pc : Nat} {M : GM} {lv : List (Nat × Value)} {st : List Value} (X : GC x cc nL RL d) {g : Nat} (ht : gT g = 11) (dec : decode cc pc = .ok (.getfield 95, 3)) (go : WG x M lv (pc + 3) (.int (gI M g 3) :: st)) : WG x M lv pc (.ref (gad (xz x) g) :: st) := g_get X (k := 3) ht (by decide) (gE_11 ht) rfl inX11 (by decide) q_829 rfl rfl dec go
theorem gf_L_98 {x : GX} {cc : ByteArray} {nL d pc : Nat} {M : GM} {lv : List (Nat × Value)} {st : List Value} (X : GC x cc nL RL d) {g : Nat} (ht : gT g = 11) (dec : decode cc pc = .ok (.getfield 98, 3)) (go : WG x M lv (pc + 3) (.ref (gad (xz x) 123) :: st)) : WG x M lv pc (.ref (gad (xz x) g) :: st) := g_get X (k := 5) ht (by decide) (gE_11 ht) rfl inX11 (by decide) q_834 rfl rfl dec go
theorem gp_X11_144 {x : GX} {cc : ByteArray} {nL d pc : Nat} {M : GM} {lv : List (Nat × Value)} {st : List Value} (X : GC x cc nL RX11 d) {g : Nat} {v : Int32} (ht : gT g = 11) (dec : decode cc pc = .ok (.putfield 144, 3)) (go : WG x (sI M g 13 v) lv (pc + 3) st) : WG x M lv pc (.int v :: .ref (gad (xz x) g) :: st) := g_put X (k := 13) (M1 := sI M g 13 v) ht (by decide) (gE_11 ht) (by rw [gE_11 ht]; simp [gI, gL, gP, sI, sL, sP, u2]) gE_sI (fun h => h) rfl inX11 tyX11_ok nmX11 (by decide) q_844 rfl rfl (tyX11_ok 13 (by decide)) rfl rfl (Nat.le_of_ble_eq_true rfl) dec go
theorem gp_X11_41 {x : GX} {cc : ByteArray} {nL d pc : Nat} {M : GM} {lv : List (Nat × Value)} {st : List Value} (X : GC x cc nL RX11 d) {g : Nat} {v : Int32} (ht : gT g = 11) (dec : decode cc pc = .ok (.putfield 41, 3)) (go : WG x (sI M g 11 v) lv (pc + 3) st) : WG x M lv pc (.int v :: .ref (gad (xz x) g) :: st) := g_put X (k := 11) (M1 := sI M g 11 v) ht (by decide) (gE_11 ht) (by rw [gE_11 ht]; simp [gI, gL, gP, sI, sL, sP, u2]) gE_sI (fun h => h) rfl inX11 tyX11_ok nmX11 (by decide) q_841 rfl rfl (tyX11_ok 11 (by decide)) rfl rfl (Nat.le_of_ble_eq_true rfl) dec go
theorem gp_X11_45 {x : GX} {cc : ByteArray} {nL d pc : Nat} {M : GM} {lv : List (Nat × Value)} {st : List Value} (X : GC x cc nL RX11 d) {g : Nat} {v : Int32} (ht : gT g = 11) (dec : decode cc pc = .ok (.putfield 45, 3)) (go : WG x (sI M g 12 v) lv (pc + 3) st) : WG x M lv pc (.int v :: .ref (gad (xz x) g) :: st) := g_put X (k := 12) (M1 := sI M g 12 v) ht (by decide) (gE_11 ht) (by rw [gE_11 ht]; simp [gI, gL, gP, sI, sL, sP, u2]) gE_sI (fun h => h) rfl inX11 tyX11_ok nmX11 (by decide) q_842 rfl rfl (tyX11_ok 12 (by decide)) rfl rfl (Nat.le_of_ble_eq_true rfl) dec go
theorem gp_X11_51 {x : GX} {cc : ByteArray} {nL d pc : Nat} {M : GM} {lv : List (Nat × Value)} {st : List Value} (X : GC x cc nL RX11 d) {g : Nat} {v : Int32} (ht : gT g = 11) (dec : decode cc pc = .ok (.putfield 51, 3)) (go : WG x (sI M g 2 v) lv (pc + 3) st) : WG x M lv pc (.int v :: .ref (gad (xz x) g) :: st) := g_put X (k := 2) (M1 := sI M g 2 v) ht (by decide) (gE_11 ht) (by rw [gE_11 ht]; simp [gI, gL, gP, sI, sL, sP, u2]) gE_sI (fun h => h) rfl inX11 tyX11_ok nmX11 (by decide) q_828 rfl rfl (tyX11_ok 2 (by decide)) rfl rfl (Nat.le_of_ble_eq_true rfl) dec go
theorem gp_X11_75 {x : GX} {cc : ByteArray} {nL d pc : Nat} {M : GM} {lv : List (Nat × Value)} {st : List Value} (X : GC x cc nL RX11 d) {g : Nat} {v : Int32} (ht : gT g = 11) (dec : decode cc pc = .ok (.putfield 75, 3)) (go : WG x (sI M g 3 v) lv (pc + 3) st) : WG x M lv pc (.int v :: .ref (gad (xz x) g) :: st) := g_put X (k := 3) (M1 := sI M g 3 v) ht (by decide) (gE_11 ht) (by rw [gE_11 ht]; simp [gI, gL, gP, sI, sL, sP, u2]) gE_sI (fun h => h) rfl inX11 tyX11_ok nmX11 (by decide) q_830 rfl rfl (tyX11_ok 3 (by decide)) rfl rfl (Nat.le_of_ble_eq_true rfl) dec go
theorem gp_X11_82 {x : GX} {cc : ByteArray} {nL d pc : Nat} {M : GM} {lv : List (Nat × Value)} {st : List Value} (X : GC x cc nL RX11 d) {g : Nat} {v : Int32} (ht : gT g = 11) (dec : decode cc pc = .ok (.putfield 82, 3)) (go : WG x (sI M g 4 v) lv (pc + 3) st) : WG x M lv pc (.int v :: .ref (gad (xz x) g) :: st) := g_put X (k := 4) (M1 := sI M g 4 v) ht (by decide) (gE_11 ht) (by rw [gE_11 ht]; simp [gI, gL, gP, sI, sL, sP, u2]) gE_sI (fun h => h) rfl inX11 tyX11_ok nmX11 (by decide) q_832 rfl rfl (tyX11_ok 4 (by decide)) rfl rfl (Nat.le_of_ble_eq_true rfl) dec go
