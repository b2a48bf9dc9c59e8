theorem ow_146 : zown "AsOfLedger" 146 148 150 "java/util/NoSuchElementException" "there is no such entry, or it is void" ["java/lang/RuntimeException", "java/lang/Exception"] := sorry
