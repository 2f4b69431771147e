section GFT
end GFT
section GFT2
end GFT2
section GFT3
end GFT3
section GFT4
end GFT4
